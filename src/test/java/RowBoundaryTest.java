/** The boundary cases of promises 1 to 4 and 14, each by its own test. */
public final class RowBoundaryTest {
    private static final int MIN = Integer.MIN_VALUE;
    private static final int MAX = Integer.MAX_VALUE;
    private static final Due due = new Due("the row's boundaries");

    public static void main(String[] args) {
        due.test("promise 1: an empty ROW", RowBoundaryTest::newRow);
        due.test("promise 1: an empty TREE", RowBoundaryTest::newTree);
        due.test("promise 1: two objects have nothing in common", RowBoundaryTest::twoObjects);
        due.test("promise 2: the low 9 bits of what is given", RowBoundaryTest::lowNineBits);
        due.test("promise 2: at the end of THE ROW: its length", RowBoundaryTest::endOfTheRow);
        due.test("promise 2: there is room for all that 512 calls bring", RowBoundaryTest::roomForAllCalls);
        due.test("promise 3: n is 0 .. its length", RowBoundaryTest::cutWithin);
        due.test("promise 3: THE ROW keeps its first n numbers", RowBoundaryTest::cutKeepsTheFirst);
        due.test("promise 3: the TREE stays", RowBoundaryTest::cutLeavesTheTree);
        due.test("promise 3: n is below 0", RowBoundaryTest::cutBelowZero);
        due.test("promise 3: n is above its length", RowBoundaryTest::cutAboveTheLength);
        due.test("promise 3: its length is THE ROW's, not the TREE's", RowBoundaryTest::cutGoesByTheRow);
        due.test("promise 4: THE ROW is empty", RowBoundaryTest::buildEmpty);
        due.test("promise 4: THE ROW is as it was", RowBoundaryTest::buildTwice);
        due.test("promise 4: as THE ROW is now, as long as before", RowBoundaryTest::buildAsLong);
        due.test("promise 4: as THE ROW is now, shorter than before", RowBoundaryTest::buildShorter);
        due.test("promise 4: as THE ROW is now, longer than before", RowBoundaryTest::buildLonger);
        due.test("promise 14: 0 and 1", RowBoundaryTest::countOfRowAndTree);
        due.test("promise 14: else -1", RowBoundaryTest::countOfElse);
        due.end();
    }

    private static void newRow() {
        due.is(new LevelTree(), 0, "count", 0);
        due.is(new LevelTree(), 0, "cut", 0);
        due.is(new LevelTree(), 0, "build");
        due.is(new LevelTree(), 3, "add", 1, 2, 3);
        due.refuses(Scene.NEW, Due.ILLEGAL_ARGUMENT, "cut", 1);
    }

    private static void newTree() {
        due.is(new LevelTree(), 0, "count", 1);
        due.is(new LevelTree(), 0, "often", 0, 0, 0);
        due.is(new LevelTree(), 0, "below", 512, 0, 0);
        due.is(new LevelTree(), 0, "different", 0, 0);
        due.is(new LevelTree(), -1, "before", 511, 0, 0);
        due.is(new LevelTree(), -1, "most", 0, 0);
        due.refuses(Scene.NEW, Due.NO_SUCH_ELEMENT, "at", 0);
        due.refuses(Scene.NEW, Due.NO_SUCH_ELEMENT, "place", 0, 0);
        due.refuses(Scene.NEW, Due.NO_SUCH_ELEMENT, "least", 0, 0, 0);
        due.refuses(Scene.NEW, Due.NO_SUCH_ELEMENT, "number", 0);
        due.refuses(Scene.NEW, Due.ILLEGAL_ARGUMENT, "most", 0, 1);
    }

    private static void twoObjects() {
        LevelTree first = Scene.BUILT.make();
        LevelTree second = new LevelTree();
        due.is(second, 0, "count", 0);
        due.is(second, 0, "count", 1);
        due.noSuchElement(second, "number", 0);
        second.add(44, 44, 44);
        second.build();
        second.different(0, 3);
        due.is(first, 9, "count", 0);
        due.is(first, 7, "at", 0);
        due.is(first, 2, "number", 0);
        due.is(first, 9, "build");
        numbersAre(first, Scene.sample());
    }

    private static void lowNineBits() {
        int[][] givenAndKept = {
            {0, 0}, {1, 1}, {255, 255}, {256, 256}, {510, 510}, {511, 511},
            {512, 0}, {513, 1}, {1023, 511}, {1024, 0}, {65535, 511}, {65536, 0}, {0x12345678, 0x78},
            {-1, 511}, {-2, 510}, {-511, 1}, {-512, 0}, {-513, 511}, {-1024, 0},
            {MAX, 511}, {MAX - 1, 510}, {MAX - 511, 0}, {MIN, 0}, {MIN + 1, 1}, {MIN + 511, 511}, {MIN + 512, 0},
        };
        for (int[] pair : givenAndKept) {
            keeps(pair[0], 3, 4, pair[1], 3, 4);
            keeps(3, pair[0], 4, 3, pair[1], 4);
            keeps(3, 4, pair[0], 3, 4, pair[1]);
            keeps(pair[0], pair[0], pair[0], pair[1], pair[1], pair[1]);
        }
    }

    private static void keeps(int a, int b, int c, int... want) {
        LevelTree x = new LevelTree();
        due.is(x, 3, "add", a, b, c);
        due.is(x, 3, "build");
        for (int place = 0; place < 3; place++) {
            due.is(x, want[place], "at", place);
            due.is(x, 1, "often", want[place], place, place + 1);
        }
    }

    private static void endOfTheRow() {
        for (Scene scene : Scene.values()) {
            int length = scene.row.length;
            LevelTree x = scene.make();
            due.is(x, length + 3, "add", 21, 22, 23);
            due.is(x, length + 3, "count", 0);
            due.is(x, scene.tree.length, "count", 1);
            due.is(x, length + 6, "add", 24, 25, 26);
            due.is(x, length + 6, "build");
            for (int place = 0; place < length; place++) {
                due.is(x, scene.row[place], "at", place);
            }
            for (int i = 0; i < 6; i++) {
                due.is(x, 21 + i, "at", length + i);
            }
            due.noSuchElement(x, "at", length + 6);
        }
    }

    private static void roomForAllCalls() {
        LevelTree x = new LevelTree();
        for (int length = 3; length <= 1536; length += 3) {
            due.is(x, length, "add", length, length + 1, length + 2);
        }
    }

    private static void cutWithin() {
        for (Scene scene : Scene.values()) {
            for (int n = 0; n <= scene.row.length; n++) {
                LevelTree x = scene.make();
                due.is(x, n, "cut", n);
                due.is(x, n, "count", 0);
                due.is(x, n, "cut", n);
                due.is(x, 0, "cut", 0);
                due.is(x, 0, "count", 0);
                due.is(x, 0, "cut", 0);
            }
        }
    }

    private static void cutKeepsTheFirst() {
        for (Scene scene : Scene.values()) {
            for (int n = 0; n <= scene.row.length; n++) {
                LevelTree x = scene.make();
                x.cut(n);
                due.illegalArgument(x, "cut", n + 1);
                due.is(x, n, "build");
                for (int place = 0; place < n; place++) {
                    due.is(x, scene.row[place], "at", place);
                }
                due.noSuchElement(x, "at", n);
            }
        }
    }

    private static void cutLeavesTheTree() {
        for (Scene scene : Scene.values()) {
            for (int n = 0; n <= scene.row.length; n++) {
                LevelTree x = scene.make();
                x.cut(n);
                due.is(x, scene.tree.length, "count", 1);
                numbersAre(x, scene.tree);
                for (int i = 0; i < scene.groups.length; i++) {
                    due.is(x, scene.groups[i], "number", i);
                }
                due.is(x, scene.tree.length, "below", 512, 0, scene.tree.length);
            }
        }
        LevelTree x = Scene.BUILT.make();
        x.cut(0);
        due.is(x, 3, "often", 7, 0, 9);
        due.is(x, 6, "place", 7, 2);
        due.is(x, 511, "least", 0, 9, 8);
        due.is(x, 4, "below", 7, 0, 9);
        due.is(x, 5, "different", 0, 9);
        due.is(x, 300, "before", 510, 0, 9);
        due.is(x, 7, "most", 0, 9);
    }

    private static void cutBelowZero() {
        for (Scene scene : Scene.values()) {
            for (int n : new int[] {-1, -2, -4000, MIN + 1, MIN}) {
                due.refuses(scene, Due.ILLEGAL_ARGUMENT, "cut", n);
            }
        }
    }

    private static void cutAboveTheLength() {
        for (Scene scene : Scene.values()) {
            for (int beyond : new int[] {1, 2, 3, 9, 512}) {
                due.refuses(scene, Due.ILLEGAL_ARGUMENT, "cut", scene.row.length + beyond);
            }
            for (int n : new int[] {3999, 4000, 4001, MAX - 1, MAX}) {
                due.refuses(scene, Due.ILLEGAL_ARGUMENT, "cut", n);
            }
        }
    }

    private static void cutGoesByTheRow() {
        due.is(Scene.ROW_LONGER.make(), 12, "cut", 12);
        due.is(Scene.ROW_LONGER.make(), 10, "cut", 10);
        due.refuses(Scene.ROW_LONGER, Due.ILLEGAL_ARGUMENT, "cut", 13);
        due.is(Scene.ROW_SHORTER.make(), 4, "cut", 4);
        due.refuses(Scene.ROW_SHORTER, Due.ILLEGAL_ARGUMENT, "cut", 5);
        due.refuses(Scene.ROW_SHORTER, Due.ILLEGAL_ARGUMENT, "cut", 9);
        due.is(Scene.NEVER_BUILT.make(), 3, "cut", 3);
        due.is(Scene.NEVER_BUILT.make(), 1, "cut", 1);
        due.refuses(Scene.NEVER_BUILT, Due.ILLEGAL_ARGUMENT, "cut", 4);
    }

    private static void buildEmpty() {
        for (Scene scene : Scene.values()) {
            LevelTree x = scene.make();
            x.cut(0);
            due.is(x, 0, "build");
            due.is(x, 0, "count", 1);
            due.noSuchElement(x, "at", 0);
            due.is(x, 0, "often", 7, 0, 0);
            due.illegalArgument(x, "often", 7, 0, 1);
            due.noSuchElement(x, "place", 7, 0);
            due.noSuchElement(x, "least", 0, 0, 0);
            due.is(x, 0, "below", 512, 0, 0);
            due.is(x, -1, "before", 511, 0, 0);
            due.is(x, -1, "most", 0, 0);
            due.is(x, 0, "different", 0, 0);
            due.noSuchElement(x, "number", 0);
            due.is(x, 0, "build");
            due.is(x, 3, "add", 1, 2, 3);
            due.is(x, 3, "build");
            due.is(x, 3, "at", 2);
        }
    }

    private static void buildTwice() {
        for (Scene scene : Scene.values()) {
            LevelTree x = scene.make();
            due.is(x, scene.row.length, "build");
            due.is(x, scene.row.length, "build");
            due.is(x, scene.row.length, "build");
            numbersAre(x, scene.row);
            for (int i = 0; i < scene.groups.length; i++) {
                due.is(x, scene.groups[i], "number", i);
            }
        }
    }

    private static void numbersAre(LevelTree x, int... want) {
        for (int place = 0; place < want.length; place++) {
            due.is(x, want[place], "at", place);
        }
        due.noSuchElement(x, "at", want.length);
    }

    private static void buildAsLong() {
        LevelTree x = Scene.BUILT.make();
        x.cut(6);
        x.add(1, 2, 3);
        due.is(x, 300, "at", 8);
        due.is(x, 9, "build");
        numbersAre(x, 7, 2, 7, 511, 0, 2, 1, 2, 3);
        x.cut(0);
        x.add(10, 11, 12);
        x.add(13, 14, 15);
        x.add(16, 17, 18);
        due.is(x, 2, "at", 7);
        due.is(x, 9, "build");
        numbersAre(x, 10, 11, 12, 13, 14, 15, 16, 17, 18);
    }

    /** What was there before must not shine through, wherever the new end lies in the words of a level. */
    private static void buildShorter() {
        for (int number : new int[] {511, 0, 256, 255, 1}) {
            LevelTree x = new LevelTree();
            for (int i = 0; i < 60; i++) {
                x.add(number, number, number);
            }
            x.build();
            for (int n : new int[] {179, 161, 160, 159, 129, 128, 127, 65, 64, 63, 33, 32, 31, 2, 1}) {
                x.cut(n);
                due.is(x, n, "build");
                allAre(x, number, n);
            }
        }
    }

    private static void allAre(LevelTree x, int number, int n) {
        due.is(x, number, "at", n - 1);
        due.noSuchElement(x, "at", n);
        due.is(x, n, "often", number, 0, n);
        due.is(x, 0, "often", 511 - number, 0, n);
        due.illegalArgument(x, "often", number, 0, n + 1);
        due.is(x, n - 1, "place", number, n - 1);
        due.noSuchElement(x, "place", number, n);
        due.noSuchElement(x, "place", 511 - number, 0);
        due.is(x, number, "least", 0, n, n - 1);
        due.noSuchElement(x, "least", 0, n, n);
        due.is(x, 0, "below", number, 0, n);
        due.is(x, n, "below", number + 1, 0, n);
        due.is(x, number, "before", 511, 0, n);
        due.is(x, 1, "different", 0, n);
        due.is(x, number * 4096 + n, "number", 0);
        due.is(x, number, "most", 0, n);
    }

    private static void buildLonger() {
        for (int number : new int[] {511, 0, 256, 255, 1}) {
            LevelTree x = new LevelTree();
            for (int n = 3; n <= 69; n += 3) {
                due.is(x, n, "add", number, number, number);
                due.is(x, n - 3, "count", 1);
                due.is(x, n, "build");
                allAre(x, number, n);
            }
        }
    }

    private static void countOfRowAndTree() {
        for (Scene scene : Scene.values()) {
            LevelTree x = scene.make();
            due.is(x, scene.row.length, "count", 0);
            due.is(x, scene.tree.length, "count", 1);
            x.add(1, 2, 3);
            due.is(x, scene.row.length + 3, "count", 0);
            due.is(x, scene.tree.length, "count", 1);
            x.build();
            due.is(x, scene.row.length + 3, "count", 1);
            x.cut(1);
            due.is(x, 1, "count", 0);
            due.is(x, scene.row.length + 3, "count", 1);
        }
    }

    private static void countOfElse() {
        for (Scene scene : Scene.values()) {
            LevelTree x = scene.make();
            for (int what : new int[] {-1, 2, -2, 3, 4, 9, 256, 257, 512, 65536, MIN, MIN + 1, MAX - 1, MAX}) {
                due.is(x, -1, "count", what);
            }
            due.isStill(scene, x, "the counts of nothing");
        }
    }
}
