/** The boundary cases of the sections "What it is" and "Terms", each by its own test. */
public final class TermsTest {
    private static final int MIN = Integer.MIN_VALUE;
    private static final int MAX = Integer.MAX_VALUE;
    private static final Due due = new Due("the terms");

    public static void main(String[] args) {
        due.test("the scenes of these tests are what they tell", TermsTest::scenes);
        due.test("THE ROW: numbers 0 .. 511", TermsTest::everyNumber);
        due.test("THE ROW: at PLACES from 0", TermsTest::placesFromZero);
        due.test("the TREE is empty before the first build", TermsTest::emptyBeforeTheFirstBuild);
        due.test("the TREE is of THE ROW as it was at the latest build", TermsTest::latestBuild);
        due.test("all questions are about the TREE", TermsTest::questionsAreAboutTheTree);
        due.test("a question changes neither THE ROW nor the TREE", TermsTest::questionsChangeNothing);
        due.test("a PART: the edges that it may have", TermsTest::partsWithinTheEdges);
        due.test("a PART: from and to may be equal at every PLACE", TermsTest::emptyParts);
        due.test("a PART: not 0 <= from", TermsTest::partFromBelowZero);
        due.test("a PART: not from <= to", TermsTest::partBackwards);
        due.test("a PART: not to <= its length", TermsTest::partBeyondTheLength);
        due.test("a PART: neither edge is one", TermsTest::partWithoutAnyEdge);
        due.test("of several exceptions the one that place names first", TermsTest::placeNamesTheNumberFirst);
        due.test("of several exceptions the one that least names first", TermsTest::leastNamesThePartFirst);
        due.test("a wrong number of a wrong PART", TermsTest::wrongNumberOfAWrongPart);
        due.test("a call that throws changes nothing", TermsTest::throwingChangesNothing);
        due.test("an object is used for 512 calls", TermsTest::theLastCall);
        due.test("an object is used for 512 calls, most of them refused", TermsTest::theLastCallAfterRefusals);
        due.end();
    }

    private static void scenes() {
        for (Scene scene : Scene.values()) {
            isAsTold(scene.make(), scene);
        }
    }

    private static void isAsTold(LevelTree x, Scene scene) {
        due.is(x, scene.row.length, "count", 0);
        due.is(x, scene.tree.length, "count", 1);
        numbersAre(x, scene.tree);
        for (int i = 0; i < scene.groups.length; i++) {
            due.is(x, scene.groups[i], "number", i);
        }
        due.noSuchElement(x, "number", scene.groups.length);
        due.is(x, scene.row.length, "build");
        numbersAre(x, scene.row);
    }

    private static void numbersAre(LevelTree x, int[] want) {
        for (int place = 0; place < want.length; place++) {
            due.is(x, want[place], "at", place);
        }
        due.noSuchElement(x, "at", want.length);
    }

    private static void everyNumber() {
        // Two objects, so that neither is asked more than 512 times.
        for (int half = 0; half < 2; half++) {
            LevelTree x = new LevelTree();
            for (int i = 0; i < 171; i++) {
                due.is(x, 3 * i + 3, "add", 3 * i, 3 * i + 1, 3 * i + 2);
            }
            due.is(x, 513, "build");
            for (int number = half * 256; number < half * 256 + 256; number++) {
                due.is(x, number, "at", number);
            }
            due.is(x, 0, "at", 512);
        }
    }

    private static void placesFromZero() {
        LevelTree x = new LevelTree();
        x.add(11, 12, 13);
        x.build();
        due.is(x, 11, "at", 0);
        due.is(x, 12, "at", 1);
        due.is(x, 13, "at", 2);
        due.noSuchElement(x, "at", 3);
        due.is(x, 0, "place", 11, 0);
        due.is(x, 2, "place", 13, 0);
        due.is(x, 1, "often", 11, 0, 1);
        due.is(x, 0, "often", 11, 1, 3);
    }

    private static void emptyBeforeTheFirstBuild() {
        for (Scene scene : new Scene[] {Scene.NEW, Scene.NEVER_BUILT}) {
            LevelTree x = scene.make();
            due.is(x, 0, "count", 1);
            due.noSuchElement(x, "at", 0);
            due.is(x, 0, "often", 7, 0, 0);
            due.noSuchElement(x, "place", 7, 0);
            due.noSuchElement(x, "least", 0, 0, 0);
            due.is(x, 0, "below", 512, 0, 0);
            due.is(x, 0, "different", 0, 0);
            due.noSuchElement(x, "number", 0);
            due.is(x, -1, "before", 511, 0, 0);
            due.is(x, -1, "most", 0, 0);
            refusesThePart(scene, 0, 1);
            refusesThePart(scene, 0, 3);
        }
    }

    private static void latestBuild() {
        LevelTree x = Scene.builtSample();
        x.cut(1);
        x.add(4, 5, 6);
        numbersAre(x, Scene.sample());
        due.is(x, 4, "build");
        numbersAre(x, Scene.numbers(7, 4, 5, 6));
        x.add(1, 2, 3);
        numbersAre(x, Scene.numbers(7, 4, 5, 6));
        due.is(x, 7, "build");
        x.cut(0);
        numbersAre(x, Scene.numbers(7, 4, 5, 6, 1, 2, 3));
        due.is(x, 0, "build");
        numbersAre(x, Scene.numbers());
    }

    private static void questionsAreAboutTheTree() {
        for (Scene scene : new Scene[] {Scene.BUILT, Scene.ROW_LONGER, Scene.ROW_SHORTER}) {
            LevelTree x = scene.make();
            due.is(x, 300, "at", 8);
            due.noSuchElement(x, "at", 9);
            due.is(x, 6, "place", 7, 2);
            due.noSuchElement(x, "place", 7, 3);
            due.noSuchElement(x, "place", 1, 0);
            partAnswers(x, 0, 9, 3, 0, 4, 5, 2, 7);
            refusesThePart(scene, 0, 10);
        }
    }

    /** Nothing is promised beyond the answers and changes described, and of the questions only different has one. */
    private static void questionsChangeNothing() {
        for (Scene scene : Scene.values()) {
            int length = scene.tree.length;
            staysAfter(scene, "often", 7, 0, length);
            staysAfter(scene, "below", 300, 0, length);
            staysAfter(scene, "before", 511, 0, length);
            staysAfter(scene, "most", 0, length);
            staysAfter(scene, "count", 0);
            staysAfter(scene, "count", 1);
            for (int place = 0; place < length; place++) {
                staysAfter(scene, "at", place);
                staysAfter(scene, "place", scene.tree[place], 0);
                staysAfter(scene, "least", 0, length, place);
            }
            for (int i = 0; i < scene.groups.length; i++) {
                staysAfter(scene, "number", i);
            }
        }
        LevelTree x = Scene.ROW_SHORTER.make();
        due.is(x, 5, "different", 0, 9);
        numbersAre(x, Scene.ROW_SHORTER.tree);
        due.is(x, 4, "count", 0);
        due.is(x, 4, "build");
        numbersAre(x, Scene.ROW_SHORTER.row);
    }

    private static void staysAfter(Scene scene, String question, int... args) {
        LevelTree x = scene.make();
        // Asked twice, it answers the same.
        due.outcomeIs(x, Due.outcome(x, question, args), question, args);
        isAsTold(x, scene);
    }

    private static void partsWithinTheEdges() {
        LevelTree x = Scene.BUILT.make();
        partAnswers(x, 0, 9, 3, 0, 4, 5, 2, 7);
        partAnswers(x, 0, 8, 3, 0, 4, 4, 2, 7);
        partAnswers(x, 1, 9, 2, 0, 4, 5, 2, 0);
        partAnswers(x, 0, 1, 1, 7, 0, 1, -1, 7);
        partAnswers(x, 4, 5, 0, 0, 1, 1, 0, 0);
        partAnswers(x, 8, 9, 0, 300, 0, 1, -1, 300);
        LevelTree three = Scene.BUILT_ANEW.make();
        partAnswers(three, 0, 3, 1, 7, 0, 2, -1, 100);
        partAnswers(three, 2, 3, 0, 100, 0, 1, -1, 100);
    }

    /** What is due of often 7, the least of all, below 7, different, before 6 and most. */
    private static void partAnswers(LevelTree x, int from, int to, int... want) {
        due.is(x, want[0], "often", 7, from, to);
        due.is(x, want[1], "least", from, to, 0);
        due.is(x, want[2], "below", 7, from, to);
        due.is(x, want[3], "different", from, to);
        due.is(x, want[4], "before", 6, from, to);
        due.is(x, want[5], "most", from, to);
    }

    private static void emptyParts() {
        for (Scene scene : Scene.values()) {
            LevelTree x = scene.make();
            for (int place = 0; place <= scene.tree.length; place++) {
                due.is(x, 0, "often", 7, place, place);
                due.noSuchElement(x, "least", place, place, 0);
                due.is(x, 0, "below", 512, place, place);
                due.is(x, 0, "different", place, place);
                due.noSuchElement(x, "number", 0);
                due.is(x, -1, "before", 511, place, place);
                due.is(x, -1, "most", place, place);
            }
        }
    }

    private static void partFromBelowZero() {
        for (Scene scene : Scene.values()) {
            int length = scene.tree.length;
            for (int from : new int[] {-1, -2, -512, MIN + 1, MIN}) {
                refusesThePart(scene, from, length);
                refusesThePart(scene, from, 0);
                refusesThePart(scene, from, from);
            }
        }
    }

    private static void partBackwards() {
        for (Scene scene : Scene.values()) {
            int length = scene.tree.length;
            for (int from = 1; from <= length; from++) {
                refusesThePart(scene, from, from - 1);
            }
            refusesThePart(scene, length, -1);
            refusesThePart(scene, length + 1, length);
            refusesThePart(scene, 0, -1);
            refusesThePart(scene, 0, MIN);
            refusesThePart(scene, length, MIN);
            refusesThePart(scene, MAX, length);
            refusesThePart(scene, MAX, 0);
        }
        refusesThePart(Scene.BUILT, 9, 0);
        refusesThePart(Scene.BUILT, 7, 2);
    }

    private static void partBeyondTheLength() {
        for (Scene scene : Scene.values()) {
            int length = scene.tree.length;
            for (int to : new int[] {length + 1, length + 2, length + 32, 4000, 4001, MAX - 1, MAX}) {
                refusesThePart(scene, 0, to);
                refusesThePart(scene, length, to);
                refusesThePart(scene, to, to);
            }
        }
    }

    private static void partWithoutAnyEdge() {
        for (Scene scene : Scene.values()) {
            int length = scene.tree.length;
            refusesThePart(scene, -1, length + 1);
            refusesThePart(scene, MIN, MAX);
            refusesThePart(scene, MAX, MIN);
            refusesThePart(scene, MIN, length + 1);
            refusesThePart(scene, -1, MAX);
        }
    }

    private static void refusesThePart(Scene scene, int from, int to) {
        refusesArgument(scene, "often", 7, from, to);
        refusesArgument(scene, "least", from, to, 0);
        refusesArgument(scene, "below", 7, from, to);
        // 512 needs no look at the levels, so it might pass by the look at the part.
        refusesArgument(scene, "below", 512, from, to);
        refusesArgument(scene, "different", from, to);
        refusesArgument(scene, "before", 7, from, to);
        refusesArgument(scene, "most", from, to);
    }

    private static void refusesArgument(Scene scene, String name, int... args) {
        due.refuses(scene, Due.ILLEGAL_ARGUMENT, name, args);
    }

    private static void placeNamesTheNumberFirst() {
        for (Scene scene : Scene.values()) {
            for (int number : new int[] {-1, 512, 519, MIN, MAX}) {
                for (int k : new int[] {-1, 4, 4000, MIN, MAX}) {
                    refusesArgument(scene, "place", number, k);
                }
            }
        }
    }

    private static void leastNamesThePartFirst() {
        for (Scene scene : Scene.values()) {
            int length = scene.tree.length;
            for (int k : new int[] {-1, length, length + 1, 4000, MIN, MAX}) {
                refusesArgument(scene, "least", -1, length, k);
                refusesArgument(scene, "least", 0, length + 1, k);
                refusesArgument(scene, "least", length, length - 1, k);
                refusesArgument(scene, "least", MIN, MAX, k);
                refusesArgument(scene, "least", MAX, MIN, k);
            }
        }
    }

    private static void wrongNumberOfAWrongPart() {
        for (Scene scene : Scene.values()) {
            for (int number : new int[] {-1, 513, MIN, MAX}) {
                refusesArgument(scene, "often", number, 0, scene.tree.length + 1);
                refusesArgument(scene, "below", number, -1, scene.tree.length);
                refusesArgument(scene, "before", number, 1, 0);
            }
        }
    }

    /** One by one they are looked at in the tests of each promise; here all of them on one object. */
    private static void throwingChangesNothing() {
        for (Scene scene : Scene.values()) {
            LevelTree x = scene.make();
            allRefused(x, scene);
            due.isStill(scene, x, "all refused calls");
        }
    }

    private static void allRefused(LevelTree x, Scene scene) {
        int length = scene.tree.length;
        for (int far : new int[] {MIN, -1, 4001, MAX}) {
            due.illegalArgument(x, "cut", far);
            due.noSuchElement(x, "at", far);
            due.illegalArgument(x, "often", far, 0, length);
            due.illegalArgument(x, "often", 7, far, length);
            due.illegalArgument(x, "often", 7, 0, far);
            due.illegalArgument(x, "place", far, 0);
            due.noSuchElement(x, "place", 7, far);
            due.illegalArgument(x, "least", far, length, 0);
            due.illegalArgument(x, "least", 0, far, 0);
            due.noSuchElement(x, "least", 0, length, far);
            due.illegalArgument(x, "below", far, 0, length);
            due.illegalArgument(x, "below", 7, far, length);
            due.illegalArgument(x, "below", 7, 0, far);
            due.illegalArgument(x, "different", far, length);
            due.illegalArgument(x, "different", 0, far);
            due.noSuchElement(x, "number", far);
            due.illegalArgument(x, "before", far, 0, length);
            due.illegalArgument(x, "before", 7, far, length);
            due.illegalArgument(x, "before", 7, 0, far);
            due.illegalArgument(x, "most", far, length);
            due.illegalArgument(x, "most", 0, far);
        }
    }

    /** Each question as the 512th call, of the longest tree that can then be asked. */
    private static void theLastCall() {
        due.is(added(511), 1536, "add", 1, 2, 3);
        due.is(added(511), 1532, "cut", 1532);
        due.is(added(511), 1533, "build");
        due.is(added(511), 1533, "count", 0);
        due.is(built(510), 1530, "count", 1);
        due.is(built(510), 511, "at", 1529);
        due.is(built(510), 0, "at", 0);
        due.outcomeIs(built(510), Due.NO_SUCH_ELEMENT, "at", 1530);
        due.is(built(510), 1020, "often", 511, 0, 1530);
        due.is(built(510), 1529, "place", 511, 1019);
        due.is(built(510), 1527, "place", 0, 509);
        due.outcomeIs(built(510), Due.NO_SUCH_ELEMENT, "place", 511, 1020);
        due.is(built(510), 511, "least", 0, 1530, 1529);
        due.is(built(510), 0, "least", 0, 1530, 509);
        due.is(built(510), 511, "least", 0, 1530, 510);
        due.is(built(510), 510, "below", 511, 0, 1530);
        due.is(built(510), 1530, "below", 512, 0, 1530);
        due.is(built(510), 2, "different", 0, 1530);
        due.is(built(510), 0, "before", 510, 0, 1530);
        due.is(built(510), 511, "most", 0, 1530);
        LevelTree x = built(509);
        due.is(x, 2, "different", 0, 1527);
        due.is(x, 511 * 4096 + 1018, "number", 1);
    }

    private static LevelTree added(int times) {
        LevelTree x = new LevelTree();
        for (int i = 0; i < times; i++) {
            x.add(0, 511, 511);
        }
        return x;
    }

    private static LevelTree built(int times) {
        LevelTree x = added(times);
        x.build();
        return x;
    }

    private static void theLastCallAfterRefusals() {
        LevelTree x = Scene.BUILT.make();
        int madeBefore = 5;
        for (int call = madeBefore; call < 511; call++) {
            due.outcomeIs(x, Due.ILLEGAL_ARGUMENT, "cut", 10 + call);
        }
        due.is(x, 511 * 4096 + 1, "number", 4);
        LevelTree y = new LevelTree();
        for (int call = 0; call < 511; call++) {
            due.is(y, 0, "build");
        }
        due.is(y, 3, "add", 1, 2, 3);
    }
}
