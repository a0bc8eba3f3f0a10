/** Each promise by itself, by a few calls of all kinds; its boundary cases have tests of their own elsewhere. */
public final class PromisesTest {
    private static final int MIN = Integer.MIN_VALUE;
    private static final int MAX = Integer.MAX_VALUE;
    private static Due due;

    public static void main(String[] args) {
        due = new Due("the promises");
        newObject();
        add();
        cut();
        build();
        at();
        often();
        place();
        least();
        below();
        different();
        number();
        before();
        most();
        count();
        due.end();
    }

    /** Promise 1. */
    private static void newObject() {
        LevelTree x = new LevelTree();
        due.is(x, 0, "count", 0);
        due.is(x, 0, "count", 1);
        due.noSuchElement(x, "at", 0);
        due.is(x, 0, "often", 0, 0, 0);
        due.noSuchElement(x, "place", 0, 0);
        due.noSuchElement(x, "least", 0, 0, 0);
        due.is(x, 0, "below", 512, 0, 0);
        due.noSuchElement(x, "number", 0);
        due.is(x, 0, "different", 0, 0);
        due.noSuchElement(x, "number", 0);
        due.is(x, -1, "before", 511, 0, 0);
        due.is(x, -1, "most", 0, 0);
        due.illegalArgument(x, "most", 0, 1);
        due.is(x, 0, "cut", 0);
        due.illegalArgument(x, "cut", 1);
        due.is(x, 0, "build");
    }

    /** Promise 2. */
    private static void add() {
        LevelTree x = new LevelTree();
        due.is(x, 3, "add", 1, 2, 3);
        due.is(x, 6, "add", 512, 513, 1023);
        due.is(x, 9, "add", -1, MIN, MAX);
        due.is(x, 12, "add", -512, -511, 511);
        due.noSuchElement(x, "at", 0);
        due.is(x, 12, "build");
        int[] want = {1, 2, 3, 0, 1, 511, 511, 0, 511, 0, 1, 511};
        for (int i = 0; i < want.length; i++) {
            due.is(x, want[i], "at", i);
        }
    }

    /** Promise 3. */
    private static void cut() {
        LevelTree x = Scene.builtSample();
        due.illegalArgument(x, "cut", 10);
        due.illegalArgument(x, "cut", -1);
        due.illegalArgument(x, "cut", MIN);
        due.illegalArgument(x, "cut", MAX);
        due.is(x, 9, "cut", 9);
        due.is(x, 2, "cut", 2);
        due.is(x, 2, "count", 0);
        due.is(x, 9, "count", 1);
        due.is(x, 300, "at", 8);
        due.illegalArgument(x, "cut", 3);
        due.is(x, 5, "add", 20, 21, 22);
        due.is(x, 7, "at", 2);
        due.is(x, 5, "build");
        due.is(x, 7, "at", 0);
        due.is(x, 2, "at", 1);
        due.is(x, 20, "at", 2);
        due.is(x, 22, "at", 4);
        due.is(x, 0, "cut", 0);
        due.is(x, 0, "count", 0);
    }

    /** Promise 4. */
    private static void build() {
        LevelTree x = Scene.builtSample();
        due.is(x, 9, "build");
        due.is(x, 12, "add", 7, 7, 7);
        due.is(x, 9, "count", 1);
        due.is(x, 3, "often", 7, 0, 9);
        due.illegalArgument(x, "often", 7, 0, 12);
        due.is(x, 12, "build");
        due.is(x, 6, "often", 7, 0, 12);
        x.cut(1);
        due.is(x, 1, "build");
        due.is(x, 7, "at", 0);
        due.noSuchElement(x, "at", 1);
        due.noSuchElement(x, "place", 7, 1);
        x.cut(0);
        due.is(x, 0, "build");
        due.noSuchElement(x, "at", 0);
        due.is(x, 0, "count", 1);
    }

    /** Promise 5. */
    private static void at() {
        LevelTree x = Scene.builtSample();
        int[] want = {7, 2, 7, 511, 0, 2, 7, 0, 300};
        for (int i = 0; i < want.length; i++) {
            due.is(x, want[i], "at", i);
        }
        due.noSuchElement(x, "at", 9);
        due.noSuchElement(x, "at", -1);
        due.noSuchElement(x, "at", MIN);
        due.noSuchElement(x, "at", MAX);
    }

    /** Promise 6. */
    private static void often() {
        LevelTree x = Scene.builtSample();
        due.is(x, 3, "often", 7, 0, 9);
        due.is(x, 2, "often", 7, 1, 7);
        due.is(x, 1, "often", 511, 3, 4);
        due.is(x, 0, "often", 511, 4, 9);
        due.is(x, 2, "often", 0, 0, 9);
        due.is(x, 0, "often", 1, 0, 9);
        due.is(x, 0, "often", 7, 2, 2);
        due.is(x, 0, "often", 300, 9, 9);
        due.illegalArgument(x, "often", 512, 0, 9);
        due.illegalArgument(x, "often", -1, 0, 9);
        due.illegalArgument(x, "often", MIN, 0, 9);
        due.illegalArgument(x, "often", MAX, 0, 9);
    }

    /** Promise 7. */
    private static void place() {
        LevelTree x = Scene.builtSample();
        due.is(x, 0, "place", 7, 0);
        due.is(x, 2, "place", 7, 1);
        due.is(x, 6, "place", 7, 2);
        due.noSuchElement(x, "place", 7, 3);
        due.is(x, 4, "place", 0, 0);
        due.is(x, 7, "place", 0, 1);
        due.is(x, 3, "place", 511, 0);
        due.is(x, 8, "place", 300, 0);
        due.noSuchElement(x, "place", 1, 0);
        due.noSuchElement(x, "place", 7, -1);
        due.noSuchElement(x, "place", 7, MIN);
        due.noSuchElement(x, "place", 7, MAX);
        due.illegalArgument(x, "place", 512, 0);
        due.illegalArgument(x, "place", -1, 0);
        due.illegalArgument(x, "place", MAX, 0);
    }

    /** Promise 8. */
    private static void least() {
        LevelTree x = Scene.builtSample();
        int[] want = {0, 0, 2, 2, 7, 7, 7, 300, 511};
        for (int k = 0; k < want.length; k++) {
            due.is(x, want[k], "least", 0, 9, k);
        }
        due.is(x, 2, "least", 1, 4, 0);
        due.is(x, 511, "least", 1, 4, 2);
        due.noSuchElement(x, "least", 1, 4, 3);
        due.noSuchElement(x, "least", 0, 9, 9);
        due.noSuchElement(x, "least", 0, 9, -1);
        due.noSuchElement(x, "least", 0, 9, MIN);
        due.noSuchElement(x, "least", 0, 9, MAX);
        due.noSuchElement(x, "least", 4, 4, 0);
    }

    /** Promise 9. */
    private static void below() {
        LevelTree x = Scene.builtSample();
        due.is(x, 0, "below", 0, 0, 9);
        due.is(x, 2, "below", 1, 0, 9);
        due.is(x, 4, "below", 7, 0, 9);
        due.is(x, 7, "below", 8, 0, 9);
        due.is(x, 8, "below", 511, 0, 9);
        due.is(x, 9, "below", 512, 0, 9);
        due.is(x, 1, "below", 512, 3, 4);
        due.is(x, 0, "below", 511, 3, 4);
        due.is(x, 0, "below", 512, 5, 5);
        due.illegalArgument(x, "below", 513, 0, 9);
        due.illegalArgument(x, "below", -1, 0, 9);
        due.illegalArgument(x, "below", MIN, 0, 9);
        due.illegalArgument(x, "below", MAX, 0, 9);
    }

    /** Promise 10. */
    private static void different() {
        LevelTree x = Scene.builtSample();
        due.is(x, 5, "different", 0, 9);
        due.is(x, 2, "different", 0, 3);
        due.is(x, 1, "different", 3, 4);
        due.is(x, 0, "different", 9, 9);
        LevelTree all = new LevelTree();
        for (int i = 0; i < 171; i++) {
            all.add(3 * i, 3 * i + 1, 3 * i + 2);
        }
        due.is(all, 513, "build");
        due.is(all, 512, "different", 0, 513);
        due.is(all, 2, "number", 0);
        due.is(all, 511 * 4096 + 1, "number", 511);
        due.noSuchElement(all, "number", 512);
    }

    /** Promise 11. */
    private static void number() {
        LevelTree x = Scene.builtSample();
        due.noSuchElement(x, "number", 0);
        x.different(0, 9);
        due.is(x, 2, "number", 0);
        due.is(x, 2 * 4096 + 2, "number", 1);
        due.is(x, 7 * 4096 + 3, "number", 2);
        due.is(x, 300 * 4096 + 1, "number", 3);
        due.is(x, 511 * 4096 + 1, "number", 4);
        due.noSuchElement(x, "number", 5);
        due.noSuchElement(x, "number", -1);
        due.noSuchElement(x, "number", MIN);
        due.noSuchElement(x, "number", MAX);
        x.different(1, 4);
        due.is(x, 2 * 4096 + 1, "number", 0);
        due.is(x, 511 * 4096 + 1, "number", 2);
        due.noSuchElement(x, "number", 3);
        x.different(4, 4);
        due.noSuchElement(x, "number", 0);
    }

    /** Promise 12. */
    private static void before() {
        LevelTree x = Scene.builtSample();
        due.is(x, 0, "before", 0, 0, 9);
        due.is(x, 0, "before", 1, 0, 9);
        due.is(x, 2, "before", 2, 0, 9);
        due.is(x, 7, "before", 299, 0, 9);
        due.is(x, 300, "before", 510, 0, 9);
        due.is(x, 511, "before", 511, 0, 9);
        due.is(x, -1, "before", 1, 0, 4);
        due.is(x, -1, "before", 510, 3, 4);
        due.is(x, -1, "before", 511, 4, 4);
        due.illegalArgument(x, "before", 512, 0, 9);
        due.illegalArgument(x, "before", -1, 0, 9);
        due.illegalArgument(x, "before", MIN, 0, 9);
        due.illegalArgument(x, "before", MAX, 0, 9);
    }

    /** Promise 13. */
    private static void most() {
        LevelTree x = Scene.builtSample();
        due.is(x, 7, "most", 0, 9);
        due.is(x, 2, "most", 0, 2);
        due.is(x, 0, "most", 3, 9);
        due.is(x, 511, "most", 3, 4);
        due.is(x, -1, "most", 0, 0);
        due.is(x, -1, "most", 9, 9);
    }

    /** Promise 14. */
    private static void count() {
        LevelTree x = Scene.builtSample();
        x.add(1, 1, 1);
        due.is(x, 12, "count", 0);
        due.is(x, 9, "count", 1);
        due.is(x, -1, "count", 2);
        due.is(x, -1, "count", -1);
        due.is(x, -1, "count", MIN);
        due.is(x, -1, "count", MAX);
    }
}
