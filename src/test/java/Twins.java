/** An object and its model, which get the same calls: every answer and every throw of the two must be the same. */
final class Twins {
    private static final int[] EXTREMES = {Integer.MIN_VALUE, -1, 511, 512, 513, 4000, 4001, Integer.MAX_VALUE};
    private static long state = 20261115;

    private final Due due;
    private final int spread;
    private final LevelTree x = new LevelTree();
    private final Model model = new Model();

    /** The spread tells how many numbers the calls choose from: where it is small, many are equal. */
    Twins(Due due, int spread) {
        this.due = due;
        this.spread = spread;
    }

    void both(String name, int... args) {
        due.outcomeIs(x, Due.outcome(model, name, args), name, args);
    }

    void anyAdd() {
        both("add", next(spread), next(spread) - spread / 2, next(spread));
    }

    void anyCall() {
        int from = placeNear();
        int to = next(8) == 0 ? placeNear() : Math.max(from, placeNear());
        int number = next(3) == 0 || model.tree.isEmpty() ? numberNear() : model.tree.get(next(model.tree.size()));
        int k = next(20) == 0 ? extreme() : next(Math.max(1, to < 0 || from < 0 || to > 4000 ? 3 : to - from + 2));
        switch (next(16)) {
            case 0 -> both("add", numberNear(), number, numberNear());
            case 1 -> both("cut", next(3) == 0 ? extreme() : Math.max(0, model.row.size() - next(6)));
            case 2, 3 -> both("build");
            case 4 -> both("at", from);
            case 5 -> both("often", number, from, to);
            case 6, 7 -> both("place", number, next(2) == 0 ? next(4) : k);
            case 8 -> both("least", from, to, k);
            case 9 -> both("below", number, from, to);
            case 10 -> both("different", from, to);
            case 11, 12 -> both("number", next(10) == 0 ? extreme() : next(model.groups.size() + 2));
            case 13 -> both("before", number, from, to);
            case 14 -> both("most", from, to);
            default -> both("count", next(4) - 1);
        }
    }

    private int placeNear() {
        return next(25) == 0 ? extreme() : next(model.tree.size() + 2) - next(20) / 19;
    }

    private int numberNear() {
        return next(10) == 0 ? extreme() : next(Math.min(spread, 514));
    }

    private static int extreme() {
        return EXTREMES[next(EXTREMES.length)];
    }

    /** The same numbers in every run, so that a failure comes again. */
    static int next(int bound) {
        state = state * 6364136223846793005L + 1442695040888963407L;
        return (int) Long.remainderUnsigned(state >>> 33, bound);
    }
}
