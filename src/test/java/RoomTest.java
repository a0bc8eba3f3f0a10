/**
 * The end of the room of 4,000. No object comes there within 512 calls (3 x 512 = 1,536), and what later
 * calls answer is free by the document. So these tests hold the program to more than is promised: that it
 * keeps to the document's words there too, and that no call fails by itself (LANGUAGE.md, rule 7).
 * No other test makes more than 512 calls on an object.
 */
public final class RoomTest {
    private static final int MIN = Integer.MIN_VALUE;
    private static final int MAX = Integer.MAX_VALUE;
    private static final Due due = new Due("the end of the room");

    public static void main(String[] args) {
        due.test("beyond the 512th call, THE ROW: at most 4,000", RoomTest::atMostFourThousand);
        due.test("beyond the 512th call, promise 2: there is room for three", RoomTest::roomForThree);
        due.test("beyond the 512th call, promise 2: there is no room for three", RoomTest::noRoomForThree);
        due.test("beyond the 512th call, a full row of one number", RoomTest::oneNumber);
        due.test("beyond the 512th call, a full row is as the model's", RoomTest::fullRow);
        due.end();
    }

    private static void atMostFourThousand() {
        LevelTree x = new LevelTree();
        for (int i = 0; i < 1333; i++) {
            x.add(5, 511, 0);
        }
        x.cut(3997);
        due.is(x, 4000, "add", 7, 8, 9);
        due.illegalState(x, "add", 7, 8, 9);
        due.is(x, 4000, "build");
        due.is(x, 4000, "count", 1);
        due.is(x, 9, "at", 3999);
        due.noSuchElement(x, "at", 4000);
        due.is(x, 3999, "place", 9, 0);
        due.is(x, 1333, "often", 5, 0, 4000);
        due.is(x, 1332, "often", 511, 0, 4000);
        due.is(x, 4000, "below", 512, 0, 4000);
        due.is(x, 511, "least", 0, 4000, 3999);
        due.is(x, 0, "often", 9, 4000, 4000);
        due.illegalArgument(x, "often", 9, 0, 4001);
        due.is(x, 6, "different", 0, 4000);
        due.is(x, 511 * 4096 + 1332, "number", 5);
        due.is(x, 5, "most", 0, 4000);
    }

    private static void roomForThree() {
        LevelTree x = rowOf(3996);
        due.is(x, 3999, "add", 1, 2, 3);
        LevelTree y = rowOf(3997);
        due.is(y, 4000, "add", 1, 2, 3);
        due.is(y, 4000, "build");
        due.is(y, 1, "at", 3997);
        due.is(y, 3, "at", 3999);
    }

    private static void noRoomForThree() {
        for (int length = 3998; length <= 4000; length++) {
            LevelTree x = length == 4000 ? rowOf(3997) : rowOf(length);
            if (length == 4000) {
                x.add(5, 5, 5);
            }
            due.illegalState(x, "add", 1, 2, 3);
            due.illegalState(x, "add", MIN, MAX, -1);
            due.is(x, length, "count", 0);
            due.is(x, 9, "count", 1);
            due.is(x, 2 * 4096 + 1, "number", 0);
            due.is(x, length, "build");
            due.is(x, length - 9, "often", 5, 0, length);
            due.is(x, 5, "at", length - 1);
            due.noSuchElement(x, "at", length);
            due.is(x, 3997, "cut", 3997);
            due.is(x, 4000, "add", 1, 2, 3);
        }
    }

    /** Not built behind the ninth number; the rest are fives. */
    private static LevelTree rowOf(int length) {
        LevelTree x = Scene.builtSample();
        x.different(0, 3);
        for (int i = 9; i < 3999; i += 3) {
            x.add(5, 5, 5);
        }
        x.cut(length);
        return x;
    }

    private static void oneNumber() {
        for (int number : new int[] {0, 1, 255, 256, 511}) {
            LevelTree x = new LevelTree();
            for (int i = 0; i < 1333; i++) {
                x.add(number, number, number);
            }
            x.cut(3997);
            x.add(number, number, number);
            due.is(x, 4000, "build");
            due.is(x, number, "at", 3999);
            due.is(x, 4000, "often", number, 0, 4000);
            due.is(x, 3999, "place", number, 3999);
            due.noSuchElement(x, "place", number, 4000);
            due.is(x, number, "least", 0, 4000, 0);
            due.is(x, number, "least", 0, 4000, 3999);
            due.is(x, 0, "below", number, 0, 4000);
            due.is(x, 4000, "below", number + 1, 0, 4000);
            due.is(x, 1, "different", 0, 4000);
            due.is(x, number * 4096 + 4000, "number", 0);
            due.is(x, number, "before", number, 0, 4000);
            due.is(x, number, "most", 0, 4000);
        }
    }

    private static void fullRow() {
        Twins twins = new Twins(due, 512);
        for (int i = 0; i < 1334; i++) {
            twins.both("add", Twins.next(512), Twins.next(512), Twins.next(30));
        }
        twins.both("cut", 3997);
        twins.both("add", 511, 511, 0);
        twins.both("build");
        for (int place = -1; place <= 4000; place++) {
            twins.both("at", place);
        }
        for (int number = -1; number <= 513; number++) {
            twins.both("often", number, 0, 4000);
            twins.both("below", number, 1, 4000);
            twins.both("before", number, 3000, 4000);
            for (int k = -1; k < 12; k++) {
                twins.both("place", number, k);
            }
        }
        for (int i = 0; i < 3000; i++) {
            twins.anyCall();
        }
    }
}
