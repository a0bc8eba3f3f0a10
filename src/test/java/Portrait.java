/**
 * All that an object tells of itself now and after its next changes, in fewer than 200 calls. No call
 * of it is a refused one: what a refused call had spoiled would be spoiled in every portrait alike.
 */
final class Portrait {
    private final LevelTree x;
    private final StringBuilder text = new StringBuilder();

    private Portrait(LevelTree x) {
        this.x = x;
    }

    /** The kinds are how many numbers the latest part has that different was asked about. */
    static String of(LevelTree x, int kinds) {
        Portrait portrait = new Portrait(x);
        portrait.askAll(kinds);
        // What stands in the row shows only when it goes on and is built.
        portrait.ask("add", 33, 34, 35);
        portrait.ask("build");
        portrait.askAll(kinds);
        portrait.ask("different", 0, x.count(1));
        portrait.askAll(x.different(0, x.count(1)));
        portrait.ask("cut", x.count(0) - 1);
        portrait.ask("count", 0);
        return portrait.text.toString();
    }

    private void askAll(int kinds) {
        int length = x.count(1);
        ask("count", 0);
        ask("count", 1);
        for (int i = 0; i < kinds; i++) {
            ask("number", i);
        }
        for (int place = 0; place < length; place++) {
            ask("at", place);
        }
        for (int k = 0; k < length; k += 2) {
            ask("least", 0, length, k);
        }
        for (int k = 0; k < x.often(7, 0, length); k++) {
            ask("place", 7, k);
        }
        askPart(0, length);
        askPart(length / 3, length - length / 3);
    }

    private void askPart(int from, int to) {
        ask("often", 7, from, to);
        ask("below", 7, from, to);
        ask("before", 7, from, to);
        ask("most", from, to);
    }

    private void ask(String name, int... args) {
        text.append(Due.outcome(x, name, args)).append(' ');
    }
}
