/** The boundary cases of promises 5 to 13, each by its own test; those of a PART are in TermsTest. */
public final class QuestionBoundaryTest {
    private static final int MIN = Integer.MIN_VALUE;
    private static final int MAX = Integer.MAX_VALUE;
    /** Some of them have the low bits of a number that stands there. */
    private static final int[] NO_NUMBERS = {-1, -2, -505, -512, MIN, MIN + 1, MIN + 7, 513, 514, 519, 1023, 1024, MAX - 1, MAX};
    private static final Due due = new Due("the questions' boundaries");

    public static void main(String[] args) {
        due.test("promise 5: the number at a PLACE", QuestionBoundaryTest::atWithin);
        due.test("promise 5: there is none below 0", QuestionBoundaryTest::atBelowZero);
        due.test("promise 5: there is none behind the end", QuestionBoundaryTest::atBehindTheEnd);
        due.test("promise 6: it is 0 .. 511", QuestionBoundaryTest::oftenWithin);
        due.test("promise 6: it is not 0 .. 511", QuestionBoundaryTest::oftenOfNoNumber);
        due.test("promise 7: it is 0 .. 511, k from 0", QuestionBoundaryTest::placeWithin);
        due.test("promise 7: the PLACE is one of the whole TREE", QuestionBoundaryTest::placeInALongTree);
        due.test("promise 7: it is not 0 .. 511", QuestionBoundaryTest::placeOfNoNumber);
        due.test("promise 7: it does not stand there so often", QuestionBoundaryTest::placeTooFar);
        due.test("promise 7: it does not stand there at all", QuestionBoundaryTest::placeOfAnAbsentNumber);
        due.test("promise 7: k is below 0", QuestionBoundaryTest::placeBelowZero);
        due.test("promise 8: k from 0", QuestionBoundaryTest::leastWithin);
        due.test("promise 8: those that are there several times count as often", QuestionBoundaryTest::leastOfEqualOnes);
        due.test("promise 8: there are not so many", QuestionBoundaryTest::leastTooFar);
        due.test("promise 8: k is below 0", QuestionBoundaryTest::leastBelowZero);
        due.test("promise 8: an empty PART has no least", QuestionBoundaryTest::leastOfAnEmptyPart);
        due.test("promise 9: 0 .. 512", QuestionBoundaryTest::belowWithin);
        due.test("promise 9: below a number, not at it", QuestionBoundaryTest::belowIsNotAt);
        due.test("promise 9: not 0 .. 512", QuestionBoundaryTest::belowNoNumber);
        due.test("promise 10: none, one and all numbers", QuestionBoundaryTest::differentWithin);
        due.test("promise 11: there is none before different was asked", QuestionBoundaryTest::numberBeforeDifferent);
        due.test("promise 11: from the least on, i from 0", QuestionBoundaryTest::numberWithin);
        due.test("promise 11: times 4,096, and how often", QuestionBoundaryTest::numberOfMany);
        due.test("promise 11: there is none behind the last", QuestionBoundaryTest::numberTooFar);
        due.test("promise 11: there is none below 0", QuestionBoundaryTest::numberBelowZero);
        due.test("promise 11: an empty PART has none", QuestionBoundaryTest::numberOfAnEmptyPart);
        due.test("promise 11: the latest PART", QuestionBoundaryTest::numberOfTheLatestPart);
        due.test("promise 11: asked about without a throw", QuestionBoundaryTest::numberAfterAThrow);
        due.test("promise 11: as the TREE was then", QuestionBoundaryTest::numberOfAnOlderTree);
        due.test("promise 11: the PART that different was asked about, no other question", QuestionBoundaryTest::numberAfterOthers);
        due.test("promise 12: not above one, 0 .. 511", QuestionBoundaryTest::beforeWithin);
        due.test("promise 12: -1: there is none", QuestionBoundaryTest::beforeTheLeast);
        due.test("promise 12: another one", QuestionBoundaryTest::beforeNoNumber);
        due.test("promise 13: of several the least", QuestionBoundaryTest::mostOfSeveral);
        due.test("promise 13: most often by one", QuestionBoundaryTest::mostByOne);
        due.test("promise 13: most often of all 512 numbers", QuestionBoundaryTest::mostOfAllNumbers);
        due.test("promise 13: -1 if it is empty", QuestionBoundaryTest::mostOfAnEmptyPart);
        due.end();
    }

    private static void atWithin() {
        for (Scene scene : Scene.values()) {
            LevelTree x = scene.make();
            for (int place = 0; place < scene.tree.length; place++) {
                due.is(x, scene.tree[place], "at", place);
            }
        }
    }

    private static void atBelowZero() {
        for (Scene scene : Scene.values()) {
            for (int place : new int[] {-1, -2, -32, -512, MIN + 1, MIN}) {
                due.refuses(scene, Due.NO_SUCH_ELEMENT, "at", place);
            }
        }
    }

    private static void atBehindTheEnd() {
        for (Scene scene : Scene.values()) {
            int length = scene.tree.length;
            for (int place : new int[] {length, length + 1, length + 2, length + 3, 4000, 4001, 4032, MAX - 1, MAX}) {
                due.refuses(scene, Due.NO_SUCH_ELEMENT, "at", place);
            }
        }
    }

    private static void oftenWithin() {
        for (Scene scene : Scene.values()) {
            for (int number : new int[] {0, 1, 2, 7, 255, 256, 300, 510, 511}) {
                due.is(scene.make(), timesIn(scene.tree, number), "often", number, 0, scene.tree.length);
                due.is(scene.make(), 0, "often", number, 0, 0);
            }
        }
        LevelTree x = all512();
        for (int number = 0; number < 256; number++) {
            due.is(x, 1, "often", number, 0, 512);
        }
        LevelTree y = all512();
        for (int number = 256; number < 512; number++) {
            due.is(y, 1, "often", number, number, number + 1);
        }
    }

    private static void oftenOfNoNumber() {
        for (Scene scene : Scene.values()) {
            due.refuses(scene, Due.ILLEGAL_ARGUMENT, "often", 512, 0, scene.tree.length);
            due.refuses(scene, Due.ILLEGAL_ARGUMENT, "often", 512, 0, 0);
            for (int number : NO_NUMBERS) {
                due.refuses(scene, Due.ILLEGAL_ARGUMENT, "often", number, 0, scene.tree.length);
                due.refuses(scene, Due.ILLEGAL_ARGUMENT, "often", number, 0, 0);
            }
        }
    }

    private static void placeWithin() {
        for (Scene scene : Scene.values()) {
            LevelTree x = scene.make();
            for (int place = 0; place < scene.tree.length; place++) {
                int number = scene.tree[place];
                due.is(x, place, "place", number, timesBefore(scene.tree, number, place));
            }
        }
        LevelTree x = all512();
        for (int number = 0; number < 256; number++) {
            due.is(x, number, "place", number, 0);
        }
        LevelTree y = all512();
        for (int number = 256; number < 512; number++) {
            due.is(y, number, "place", number, 0);
        }
    }

    private static void placeInALongTree() {
        LevelTree x = new LevelTree();
        for (int i = 0; i < 300; i++) {
            x.add(0, 511, 256);
        }
        x.build();
        for (int k : new int[] {0, 1, 9, 10, 11, 20, 21, 22, 41, 42, 43, 127, 128, 255, 256, 298, 299}) {
            due.is(x, 3 * k, "place", 0, k);
            due.is(x, 3 * k + 1, "place", 511, k);
            due.is(x, 3 * k + 2, "place", 256, k);
        }
        for (int number : new int[] {0, 511, 256}) {
            due.noSuchElement(x, "place", number, 300);
            due.noSuchElement(x, "place", number, 301);
            due.noSuchElement(x, "place", number, -1);
        }
    }

    private static void placeOfNoNumber() {
        for (Scene scene : Scene.values()) {
            due.refuses(scene, Due.ILLEGAL_ARGUMENT, "place", 512, 0);
            for (int number : NO_NUMBERS) {
                due.refuses(scene, Due.ILLEGAL_ARGUMENT, "place", number, 0);
            }
        }
    }

    private static void placeTooFar() {
        for (Scene scene : Scene.values()) {
            for (int number : new int[] {0, 2, 7, 100, 300, 511}) {
                int times = timesIn(scene.tree, number);
                for (int k : new int[] {times, times + 1, times + 2, 9, 4000, MAX - 1, MAX}) {
                    due.refuses(scene, Due.NO_SUCH_ELEMENT, "place", number, k);
                }
            }
        }
    }

    private static void placeOfAnAbsentNumber() {
        for (Scene scene : Scene.values()) {
            for (int number : new int[] {1, 3, 6, 8, 255, 256, 299, 301, 510}) {
                due.refuses(scene, Due.NO_SUCH_ELEMENT, "place", number, 0);
                due.refuses(scene, Due.NO_SUCH_ELEMENT, "place", number, 1);
            }
        }
    }

    private static void placeBelowZero() {
        for (Scene scene : Scene.values()) {
            for (int number : new int[] {0, 1, 2, 7, 511}) {
                for (int k : new int[] {-1, -2, MIN + 1, MIN}) {
                    due.refuses(scene, Due.NO_SUCH_ELEMENT, "place", number, k);
                }
            }
        }
    }

    private static void leastWithin() {
        int[] sorted = {0, 0, 2, 2, 7, 7, 7, 300, 511};
        for (Scene scene : new Scene[] {Scene.NEVER_ASKED, Scene.BUILT, Scene.ROW_LONGER, Scene.ROW_SHORTER}) {
            LevelTree x = scene.make();
            for (int k = 0; k < 9; k++) {
                due.is(x, sorted[k], "least", 0, 9, k);
            }
        }
        LevelTree x = Scene.BUILT.make();
        due.is(x, 2, "least", 1, 4, 0);
        due.is(x, 7, "least", 1, 4, 1);
        due.is(x, 511, "least", 1, 4, 2);
        due.is(x, 300, "least", 8, 9, 0);
        due.is(x, 7, "least", 0, 1, 0);
    }

    private static void leastOfEqualOnes() {
        LevelTree x = new LevelTree();
        for (int i = 0; i < 20; i++) {
            x.add(9, 9, 8);
        }
        x.build();
        for (int k = 0; k < 60; k++) {
            due.is(x, k < 20 ? 8 : 9, "least", 0, 60, k);
        }
        due.noSuchElement(x, "least", 0, 60, 60);
    }

    private static void leastTooFar() {
        for (Scene scene : Scene.values()) {
            int length = scene.tree.length;
            for (int k : new int[] {length, length + 1, length + 2, 4000, MAX - 1, MAX}) {
                due.refuses(scene, Due.NO_SUCH_ELEMENT, "least", 0, length, k);
            }
        }
        // Not so many in the part, though there are as many in the tree.
        due.refuses(Scene.BUILT, Due.NO_SUCH_ELEMENT, "least", 1, 4, 3);
        due.refuses(Scene.BUILT, Due.NO_SUCH_ELEMENT, "least", 1, 4, 4);
        due.refuses(Scene.BUILT, Due.NO_SUCH_ELEMENT, "least", 8, 9, 1);
        due.refuses(Scene.BUILT, Due.NO_SUCH_ELEMENT, "least", 0, 8, 8);
        due.refuses(Scene.BUILT, Due.NO_SUCH_ELEMENT, "least", 1, 9, 8);
    }

    private static void leastBelowZero() {
        for (Scene scene : Scene.values()) {
            int length = scene.tree.length;
            for (int k : new int[] {-1, -2, MIN + 1, MIN}) {
                due.refuses(scene, Due.NO_SUCH_ELEMENT, "least", 0, length, k);
                due.refuses(scene, Due.NO_SUCH_ELEMENT, "least", length, length, k);
            }
        }
    }

    private static void leastOfAnEmptyPart() {
        for (Scene scene : Scene.values()) {
            for (int place = 0; place <= scene.tree.length; place++) {
                due.refuses(scene, Due.NO_SUCH_ELEMENT, "least", place, place, 0);
                due.refuses(scene, Due.NO_SUCH_ELEMENT, "least", place, place, 1);
            }
        }
    }

    private static void belowWithin() {
        for (Scene scene : Scene.values()) {
            int length = scene.tree.length;
            due.is(scene.make(), 0, "below", 0, 0, length);
            due.is(scene.make(), timesIn(scene.tree, 0), "below", 1, 0, length);
            due.is(scene.make(), length - timesIn(scene.tree, 511), "below", 511, 0, length);
            due.is(scene.make(), length, "below", 512, 0, length);
            due.is(scene.make(), 0, "below", 0, length, length);
            due.is(scene.make(), 0, "below", 512, length, length);
        }
        LevelTree x = all512();
        for (int number = 0; number <= 256; number++) {
            due.is(x, number, "below", number, 0, 512);
        }
        LevelTree y = all512();
        for (int number = 257; number <= 512; number++) {
            due.is(y, number, "below", number, 0, 512);
        }
    }

    private static void belowIsNotAt() {
        LevelTree x = Scene.BUILT.make();
        due.is(x, 2, "below", 2, 0, 9);
        due.is(x, 4, "below", 3, 0, 9);
        due.is(x, 4, "below", 7, 0, 9);
        due.is(x, 7, "below", 8, 0, 9);
        due.is(x, 7, "below", 300, 0, 9);
        due.is(x, 8, "below", 301, 0, 9);
        due.is(x, 0, "below", 511, 3, 4);
        due.is(x, 1, "below", 512, 3, 4);
        due.is(x, 0, "below", 0, 4, 5);
        due.is(x, 1, "below", 1, 4, 5);
    }

    private static void belowNoNumber() {
        for (Scene scene : Scene.values()) {
            for (int number : NO_NUMBERS) {
                due.refuses(scene, Due.ILLEGAL_ARGUMENT, "below", number, 0, scene.tree.length);
                due.refuses(scene, Due.ILLEGAL_ARGUMENT, "below", number, 0, 0);
            }
        }
    }

    private static void differentWithin() {
        due.is(Scene.BUILT.make(), 0, "different", 0, 0);
        due.is(Scene.BUILT.make(), 0, "different", 9, 9);
        due.is(Scene.BUILT.make(), 1, "different", 3, 4);
        due.is(Scene.BUILT.make(), 5, "different", 0, 9);
        due.is(Scene.NEW.make(), 0, "different", 0, 0);
        due.is(Scene.EMPTIED.make(), 0, "different", 0, 0);
        LevelTree x = all512();
        due.is(x, 512, "different", 0, 513);
        due.is(x, 512, "different", 0, 512);
        due.is(x, 512, "different", 1, 513);
        due.is(x, 511, "different", 1, 512);
        due.is(x, 511, "different", 0, 511);
    }

    private static void numberBeforeDifferent() {
        for (Scene scene : new Scene[] {Scene.NEW, Scene.NEVER_BUILT, Scene.NEVER_ASKED}) {
            for (int i : new int[] {0, 1, -1, 511, 512, MIN, MAX}) {
                due.refuses(scene, Due.NO_SUCH_ELEMENT, "number", i);
            }
        }
        // A refused question is none.
        LevelTree x = Scene.NEVER_ASKED.make();
        due.illegalArgument(x, "different", 0, 10);
        due.noSuchElement(x, "number", 0);
        due.illegalArgument(x, "different", 9, 8);
        due.noSuchElement(x, "number", 0);
    }

    private static void numberWithin() {
        for (Scene scene : Scene.values()) {
            LevelTree x = scene.make();
            for (int i = 0; i < scene.groups.length; i++) {
                due.is(x, scene.groups[i], "number", i);
            }
            for (int i = scene.groups.length - 1; i >= 0; i--) {
                due.is(x, scene.groups[i], "number", i);
            }
        }
        LevelTree x = all512();
        due.is(x, 512, "different", 0, 513);
        due.is(x, 2, "number", 0);
        for (int i = 1; i < 256; i++) {
            due.is(x, i * 4096 + 1, "number", i);
        }
        LevelTree y = all512();
        due.is(y, 512, "different", 1, 513);
        for (int i = 256; i < 512; i++) {
            due.is(y, i * 4096 + 1, "number", i);
        }
        due.noSuchElement(y, "number", 512);
    }

    /** The most that 512 calls can bring together: 509 adds, a build, a different and a number. */
    private static void numberOfMany() {
        for (int number : new int[] {0, 1, 255, 256, 511}) {
            LevelTree x = new LevelTree();
            for (int i = 0; i < 509; i++) {
                x.add(number, number, number);
            }
            x.build();
            due.is(x, 1, "different", 0, 1527);
            due.is(x, number * 4096 + 1527, "number", 0);
        }
    }

    private static void numberTooFar() {
        for (Scene scene : Scene.values()) {
            int kinds = scene.groups.length;
            for (int i : new int[] {kinds, kinds + 1, kinds + 2, 9, 511, 512, 4096, MAX - 1, MAX}) {
                due.refuses(scene, Due.NO_SUCH_ELEMENT, "number", i);
            }
        }
    }

    private static void numberBelowZero() {
        for (Scene scene : Scene.values()) {
            for (int i : new int[] {-1, -2, -512, MIN + 1, MIN}) {
                due.refuses(scene, Due.NO_SUCH_ELEMENT, "number", i);
            }
        }
    }

    private static void numberOfAnEmptyPart() {
        for (int place = 0; place <= 9; place++) {
            LevelTree x = Scene.BUILT.make();
            due.is(x, 0, "different", place, place);
            due.noSuchElement(x, "number", 0);
            due.noSuchElement(x, "number", 4);
            due.noSuchElement(x, "number", -1);
        }
        LevelTree x = Scene.EMPTIED.make();
        due.is(x, 2 * 4096 + 1, "number", 0);
        due.is(x, 0, "different", 0, 0);
        due.noSuchElement(x, "number", 0);
    }

    private static void numberOfTheLatestPart() {
        LevelTree x = Scene.BUILT.make();
        due.is(x, 3, "different", 1, 4);
        numbersAre(x, 2 * 4096 + 1, 7 * 4096 + 1, 511 * 4096 + 1);
        due.is(x, 4, "different", 0, 8);
        numbersAre(x, 2, 2 * 4096 + 2, 7 * 4096 + 3, 511 * 4096 + 1);
        due.is(x, 1, "different", 8, 9);
        numbersAre(x, 300 * 4096 + 1);
        due.is(x, 0, "different", 8, 8);
        numbersAre(x);
        due.is(x, 5, "different", 0, 9);
        numbersAre(x, Scene.BUILT.groups);
    }

    private static void numbersAre(LevelTree x, int... want) {
        for (int i = 0; i < want.length; i++) {
            due.is(x, want[i], "number", i);
        }
        due.noSuchElement(x, "number", want.length);
    }

    private static void numberAfterAThrow() {
        int[][] noParts = {{-1, 1}, {0, 10}, {5, 4}, {10, 10}, {-1, -1}, {MIN, MAX}, {MAX, MIN}, {MIN, 9}, {0, MAX}};
        for (int[] part : noParts) {
            for (Scene scene : Scene.values()) {
                LevelTree x = scene.make();
                due.illegalArgument(x, "different", part[0], part[1]);
                numbersAre(x, scene.groups);
            }
        }
        // The latest without a throw, though an earlier one was without a throw, too.
        LevelTree x = Scene.BUILT.make();
        x.different(8, 9);
        due.illegalArgument(x, "different", 8, 10);
        due.illegalArgument(x, "different", 1, 0);
        numbersAre(x, 300 * 4096 + 1);
        // An empty part is asked about without a throw.
        x.different(3, 3);
        due.illegalArgument(x, "different", 8, 10);
        numbersAre(x);
    }

    private static void numberOfAnOlderTree() {
        LevelTree x = Scene.BUILT.make();
        x.add(1, 1, 1);
        numbersAre(x, Scene.BUILT.groups);
        x.build();
        numbersAre(x, Scene.BUILT.groups);
        x.cut(2);
        x.build();
        numbersAre(x, Scene.BUILT.groups);
        x.cut(0);
        x.build();
        numbersAre(x, Scene.BUILT.groups);
        x.add(400, 401, 400);
        x.build();
        numbersAre(x, Scene.BUILT.groups);
        // The part from 0 to 9 is none any longer, and asking so is refused.
        due.illegalArgument(x, "different", 0, 9);
        numbersAre(x, Scene.BUILT.groups);
        due.is(x, 2, "different", 0, 3);
        numbersAre(x, 400 * 4096 + 2, 401 * 4096 + 1);
        x.add(400, 401, 400);
        x.build();
        numbersAre(x, 400 * 4096 + 2, 401 * 4096 + 1);
    }

    private static void numberAfterOthers() {
        LevelTree x = Scene.BUILT.make();
        due.is(x, 2, "different", 0, 3);
        int[] want = {2 * 4096 + 1, 7 * 4096 + 2};
        due.is(x, 511, "at", 3);
        numbersAre(x, want);
        due.is(x, 1, "often", 511, 3, 9);
        numbersAre(x, want);
        due.is(x, 3, "place", 511, 0);
        numbersAre(x, want);
        due.is(x, 511, "least", 3, 9, 5);
        numbersAre(x, want);
        due.is(x, 6, "below", 512, 3, 9);
        numbersAre(x, want);
        due.is(x, 511, "before", 511, 3, 9);
        numbersAre(x, want);
        due.is(x, 0, "most", 3, 9);
        numbersAre(x, want);
        due.is(x, -1, "most", 9, 9);
        numbersAre(x, want);
        due.is(x, 9, "count", 1);
        numbersAre(x, want);
    }

    private static void beforeWithin() {
        LevelTree x = Scene.BUILT.make();
        due.is(x, 0, "before", 0, 0, 9);
        due.is(x, 0, "before", 1, 0, 9);
        due.is(x, 2, "before", 2, 0, 9);
        due.is(x, 2, "before", 6, 0, 9);
        due.is(x, 7, "before", 7, 0, 9);
        due.is(x, 7, "before", 299, 0, 9);
        due.is(x, 300, "before", 300, 0, 9);
        due.is(x, 300, "before", 510, 0, 9);
        due.is(x, 511, "before", 511, 0, 9);
        due.is(x, 7, "before", 511, 4, 8);
        LevelTree y = all512();
        for (int number = 0; number < 256; number++) {
            due.is(y, number, "before", number, 0, 512);
        }
        LevelTree z = all512();
        for (int number = 256; number < 512; number++) {
            due.is(z, number, "before", number, 0, 512);
        }
    }

    private static void beforeTheLeast() {
        LevelTree x = Scene.BUILT.make();
        due.is(x, -1, "before", 0, 0, 4);
        due.is(x, -1, "before", 1, 0, 4);
        due.is(x, 2, "before", 2, 0, 4);
        due.is(x, -1, "before", 510, 3, 4);
        due.is(x, -1, "before", 299, 8, 9);
        due.is(x, 300, "before", 300, 8, 9);
        for (Scene scene : Scene.values()) {
            LevelTree y = scene.make();
            for (int place = 0; place <= scene.tree.length; place++) {
                due.is(y, -1, "before", 0, place, place);
                due.is(y, -1, "before", 511, place, place);
            }
        }
    }

    private static void beforeNoNumber() {
        for (Scene scene : Scene.values()) {
            due.refuses(scene, Due.ILLEGAL_ARGUMENT, "before", 512, 0, scene.tree.length);
            due.refuses(scene, Due.ILLEGAL_ARGUMENT, "before", 512, 0, 0);
            for (int number : NO_NUMBERS) {
                due.refuses(scene, Due.ILLEGAL_ARGUMENT, "before", number, 0, scene.tree.length);
                due.refuses(scene, Due.ILLEGAL_ARGUMENT, "before", number, 0, 0);
            }
        }
    }

    private static void mostOfSeveral() {
        LevelTree x = Scene.BUILT.make();
        due.is(x, 2, "most", 0, 2);
        due.is(x, 2, "most", 1, 2);
        due.is(x, 0, "most", 3, 6);
        due.is(x, 0, "most", 1, 9);
        due.is(x, 2, "most", 5, 6);
        due.is(x, 2, "most", 5, 7);
        due.is(all512(), 0, "most", 0, 512);
        due.is(all512(), 1, "most", 1, 512);
        due.is(all512(), 510, "most", 510, 512);
        due.is(all512(), 511, "most", 511, 512);
        due.is(all512(), 0, "most", 511, 513);
        // The greater stands first, and the two are apart in one bit only.
        for (int bit = 1; bit <= 256; bit *= 2) {
            LevelTree y = new LevelTree();
            y.add(511, 511 - bit, 511);
            y.add(511 - bit, 511, 511 - bit);
            y.build();
            due.is(y, 511 - bit, "most", 0, 6);
            due.is(y, 511, "most", 0, 5);
            due.is(y, 511 - bit, "most", 1, 6);
        }
    }

    private static void mostByOne() {
        LevelTree x = new LevelTree();
        for (int i = 0; i < 100; i++) {
            x.add(0, 300, 511);
        }
        x.add(300, 511, 511);
        x.build();
        due.is(x, 0, "most", 0, 300);
        due.is(x, 300, "most", 0, 301);
        due.is(x, 300, "most", 0, 302);
        due.is(x, 511, "most", 0, 303);
        due.is(x, 511, "most", 2, 303);
        due.is(x, 300, "most", 1, 300);
        due.is(x, 511, "most", 2, 300);
        due.is(x, 300, "most", 299, 301);
    }

    /** Each number in its turn, the last one too: it comes when 511 others have been counted. */
    private static void mostOfAllNumbers() {
        for (int number = 1; number < 512; number++) {
            LevelTree x = all512();
            x.add(number, number, number);
            x.build();
            due.is(x, 0, "most", 0, 513);
            due.is(x, 0, "most", 0, 514);
            due.is(x, number, "most", 1, 514);
            due.is(x, number, "most", 0, 515);
        }
    }

    private static void mostOfAnEmptyPart() {
        for (Scene scene : Scene.values()) {
            LevelTree x = scene.make();
            for (int place = 0; place <= scene.tree.length; place++) {
                due.is(x, -1, "most", place, place);
            }
        }
    }

    /** 0 to 511 and a 0 again, built, in 172 calls. */
    private static LevelTree all512() {
        LevelTree x = new LevelTree();
        for (int i = 0; i < 171; i++) {
            x.add(3 * i, 3 * i + 1, 3 * i + 2);
        }
        x.build();
        return x;
    }

    private static int timesIn(int[] numbers, int number) {
        return timesBefore(numbers, number, numbers.length);
    }

    private static int timesBefore(int[] numbers, int number, int end) {
        int times = 0;
        for (int i = 0; i < end; i++) {
            if (numbers[i] == number) {
                times++;
            }
        }
        return times;
    }
}
