/** All that an object tells of itself now and after its next changes, in fewer than 200 calls. */
final class Portrait {
    private final LevelTree x;
    private final StringBuilder text = new StringBuilder();

    private Portrait(LevelTree x) {
        this.x = x;
    }

    static String of(LevelTree x) {
        Portrait portrait = new Portrait(x);
        portrait.askAll();
        // What stands in the row shows only when it goes on and is built.
        portrait.ask("add", 33, 34, 35);
        portrait.ask("build");
        portrait.askAll();
        portrait.ask("different", 0, x.count(1));
        portrait.askAll();
        portrait.ask("cut", x.count(0) - 1);
        portrait.ask("count", 0);
        return portrait.text.toString();
    }

    private void askAll() {
        int length = x.count(1);
        ask("count", 0);
        ask("count", 1);
        for (int place = -1; place <= length; place++) {
            ask("at", place);
        }
        for (int i = -1; i <= 9; i++) {
            ask("number", i);
        }
        for (int k = 0; k < 5; k++) {
            ask("place", 7, k);
            ask("least", 0, length, k);
        }
        askPart(0, length);
        askPart(length / 3, length - length / 3);
    }

    private void askPart(int from, int to) {
        ask("often", 7, from, to);
        ask("below", 7, from, to);
        ask("before", 7, from, to);
        ask("most", from, to);
    }

    private void ask(String name, int... args) {
        text.append(Due.outcome(x, name, args)).append(' ');
    }
}
