import java.util.ArrayList;
import java.util.List;
import java.util.NoSuchElementException;
import java.util.TreeMap;

/** Long mixed runs of calls: every answer and every throw is that of a model which only counts through lists. */
public final class ModelTest {
    private static final int OBJECTS = 400;
    private static final int CALLS = 512;
    private static final int[] EXTREMES = {Integer.MIN_VALUE, -1, 511, 512, 513, 4000, 4001, Integer.MAX_VALUE};
    private static long state = 20261115;

    public static void main(String[] args) {
        Due due = new Due("against the model");
        for (int i = 0; i < OBJECTS; i++) {
            mixedRun(due, i % 4);
        }
        fullRow(due);
        due.end();
    }

    /** The kind of run tells how far the numbers are spread, so that some runs have many equal ones. */
    private static void mixedRun(Due due, int kind) {
        int spread = new int[] {4, 40, 512, 100000}[kind];
        // Some runs start with a long row, others ask while it is short.
        int adds = next(3) == 0 ? next(400) : next(12);
        LevelTree x = new LevelTree();
        Model model = new Model();
        for (int call = 0; call < CALLS; call++) {
            if (call < adds) {
                both(due, x, model, "add", next(spread), next(spread) - spread / 2, next(spread));
            } else {
                anyCall(due, x, model, spread);
            }
        }
    }

    private static void anyCall(Due due, LevelTree x, Model model, int spread) {
        int from = placeNear(model);
        int to = next(8) == 0 ? placeNear(model) : Math.max(from, placeNear(model));
        int number = next(3) == 0 || model.tree.isEmpty() ? numberNear(spread) : model.tree.get(next(model.tree.size()));
        int k = next(20) == 0 ? extreme() : next(Math.max(1, to < 0 || from < 0 || to > 4000 ? 3 : to - from + 2));
        switch (next(16)) {
            case 0 -> both(due, x, model, "add", numberNear(spread), number, numberNear(spread));
            case 1 -> both(due, x, model, "cut", next(3) == 0 ? extreme() : Math.max(0, model.row.size() - next(6)));
            case 2, 3 -> both(due, x, model, "build");
            case 4 -> both(due, x, model, "at", from);
            case 5 -> both(due, x, model, "often", number, from, to);
            case 6, 7 -> both(due, x, model, "place", number, next(2) == 0 ? next(4) : k);
            case 8 -> both(due, x, model, "least", from, to, k);
            case 9 -> both(due, x, model, "below", number, from, to);
            case 10 -> both(due, x, model, "different", from, to);
            case 11, 12 -> both(due, x, model, "number", next(10) == 0 ? extreme() : next(model.groups.size() + 2));
            case 13 -> both(due, x, model, "before", number, from, to);
            case 14 -> both(due, x, model, "most", from, to);
            default -> both(due, x, model, "count", next(4) - 1);
        }
    }

    /** A full row lies beyond the 512 calls that the document speaks of, but no call may fail there either. */
    private static void fullRow(Due due) {
        LevelTree x = new LevelTree();
        Model model = new Model();
        for (int i = 0; i < 1334; i++) {
            both(due, x, model, "add", next(512), next(512), next(30));
        }
        both(due, x, model, "cut", 3997);
        both(due, x, model, "add", 511, 511, 0);
        both(due, x, model, "build");
        for (int place = -1; place <= 4000; place++) {
            both(due, x, model, "at", place);
        }
        for (int number = -1; number <= 513; number++) {
            both(due, x, model, "often", number, 0, 4000);
            both(due, x, model, "below", number, 1, 4000);
            both(due, x, model, "before", number, 3000, 4000);
            for (int k = -1; k < 12; k++) {
                both(due, x, model, "place", number, k);
            }
        }
        for (int i = 0; i < 3000; i++) {
            anyCall(due, x, model, 512);
        }
    }

    private static void both(Due due, LevelTree x, Model model, String name, int... args) {
        due.outcomeIs(x, Due.outcome(model, name, args), name, args);
    }

    private static int placeNear(Model model) {
        return next(25) == 0 ? extreme() : next(model.tree.size() + 2) - next(20) / 19;
    }

    private static int numberNear(int spread) {
        return next(10) == 0 ? extreme() : next(Math.min(spread, 514));
    }

    private static int extreme() {
        return EXTREMES[next(EXTREMES.length)];
    }

    /** The same numbers in every run, so that a failure comes again. */
    private static int next(int bound) {
        state = state * 6364136223846793005L + 1442695040888963407L;
        return (int) Long.remainderUnsigned(state >>> 33, bound);
    }

    /** The document's words, as plainly as they can be put; called by name. */
    @SuppressWarnings("unused")
    private static final class Model {
        final List<Integer> row = new ArrayList<>();
        final List<Integer> tree = new ArrayList<>();
        final List<Integer> groups = new ArrayList<>();

        public int add(int a, int b, int c) {
            if (row.size() + 3 > 4000) {
                throw new IllegalStateException();
            }
            row.addAll(List.of(a & 511, b & 511, c & 511));
            return row.size();
        }

        public int cut(int n) {
            need(n >= 0 && n <= row.size());
            row.subList(n, row.size()).clear();
            return n;
        }

        public int build() {
            tree.clear();
            tree.addAll(row);
            return tree.size();
        }

        public int at(int place) {
            return pick(tree, place);
        }

        public int often(int number, int from, int to) {
            need(number >= 0 && number <= 511);
            return (int) part(from, to).stream().filter(n -> n == number).count();
        }

        public int place(int number, int k) {
            need(number >= 0 && number <= 511);
            List<Integer> places = new ArrayList<>();
            for (int i = 0; i < tree.size(); i++) {
                if (tree.get(i) == number) {
                    places.add(i);
                }
            }
            return pick(places, k);
        }

        public int least(int from, int to, int k) {
            return pick(part(from, to).stream().sorted().toList(), k);
        }

        public int below(int number, int from, int to) {
            need(number >= 0 && number <= 512);
            return (int) part(from, to).stream().filter(n -> n < number).count();
        }

        public int different(int from, int to) {
            TreeMap<Integer, Integer> times = times(from, to);
            groups.clear();
            times.forEach((number, often) -> groups.add(number * 4096 + often));
            return groups.size();
        }

        public int number(int i) {
            return pick(groups, i);
        }

        public int before(int number, int from, int to) {
            need(number >= 0 && number <= 511);
            return part(from, to).stream().filter(n -> n <= number).reduce(-1, Math::max);
        }

        public int most(int from, int to) {
            int best = -1;
            TreeMap<Integer, Integer> times = times(from, to);
            for (int number : times.keySet()) {
                if (best == -1 || times.get(number) > times.get(best)) {
                    best = number;
                }
            }
            return best;
        }

        public int count(int what) {
            return what == 0 ? row.size() : what == 1 ? tree.size() : -1;
        }

        private TreeMap<Integer, Integer> times(int from, int to) {
            TreeMap<Integer, Integer> times = new TreeMap<>();
            part(from, to).forEach(number -> times.merge(number, 1, Integer::sum));
            return times;
        }

        private List<Integer> part(int from, int to) {
            need(0 <= from && from <= to && to <= tree.size());
            return tree.subList(from, to);
        }

        private static int pick(List<Integer> list, int i) {
            if (i < 0 || i >= list.size()) {
                throw new NoSuchElementException();
            }
            return list.get(i);
        }

        private static void need(boolean holds) {
            if (!holds) {
                throw new IllegalArgumentException();
            }
        }
    }
}
