import java.util.Arrays;
import java.util.NoSuchElementException;

/**
 * A row of numbers below 512 that is kept as nine levels of bits with counted ranks, and answers
 * questions about any part of it. The face checks what it is given; the classes inside rely on it.
 */
public final class LevelTree {
    private static final int ROOM = 4000;
    private static final int KINDS = 512;
    private static final int LEVELS = 9;
    private static final int TIMES_BASE = 4096;
    private static final int WORD_BITS = 32;
    // One word more than the room fills, so that the rank at the very end of a full row has a word too.
    private static final int WORDS = ROOM / WORD_BITS + 1;
    // The first step of a search over all places: twice this is above the room.
    private static final int FIRST_STEP = 2048;

    private final int[] row = new int[ROOM];
    private final Tree tree = new Tree();
    // The groups of the latest part that different was asked about, kept because the tree may be built anew.
    private final int[] groups = new int[KINDS];
    private int rowLength;
    private int groupCount;

    public LevelTree() {
        rowLength = 0;
        groupCount = 0;
    }

    public int add(int a, int b, int c) throws IllegalStateException {
        if (rowLength > ROOM - 3) {
            throw new IllegalStateException("no room for three");
        }
        row[rowLength] = a & (KINDS - 1);
        row[rowLength + 1] = b & (KINDS - 1);
        row[rowLength + 2] = c & (KINDS - 1);
        rowLength += 3;
        return rowLength;
    }

    public int cut(int n) throws IllegalArgumentException {
        if (n < 0 || n > rowLength) {
            throw new IllegalArgumentException("not a length within the row");
        }
        rowLength = n;
        return n;
    }

    public int build() {
        tree.fill(row, rowLength);
        return tree.size();
    }

    public int at(int place) throws NoSuchElementException {
        if (place < 0 || place >= tree.size()) {
            throw new NoSuchElementException("no such place");
        }
        return tree.numberAt(place);
    }

    public int often(int number, int from, int to) throws IllegalArgumentException {
        checkNumber(number, KINDS - 1);
        checkPart(from, to);
        return tree.timesOf(number, from, to);
    }

    public int place(int number, int k) throws IllegalArgumentException, NoSuchElementException {
        checkNumber(number, KINDS - 1);
        if (k < 0 || k >= tree.timesOf(number, 0, tree.size())) {
            throw new NoSuchElementException("it does not stand there so often");
        }
        return tree.placeOf(number, k);
    }

    public int least(int from, int to, int k) throws IllegalArgumentException, NoSuchElementException {
        checkPart(from, to);
        if (k < 0 || k >= to - from) {
            throw new NoSuchElementException("the part has not so many");
        }
        return numberOf(tree.groupOf(from, to, k));
    }

    public int below(int number, int from, int to) throws IllegalArgumentException {
        checkNumber(number, KINDS);
        checkPart(from, to);
        return tree.countBelow(number, from, to);
    }

    public int different(int from, int to) throws IllegalArgumentException {
        checkPart(from, to);
        int seen = 0;
        int kinds = 0;
        while (kinds < KINDS && seen < to - from) {
            groups[kinds] = tree.groupOf(from, to, seen);
            seen += timesIn(groups[kinds]);
            kinds++;
        }
        groupCount = kinds;
        return kinds;
    }

    public int number(int i) throws NoSuchElementException {
        if (i < 0 || i >= groupCount) {
            throw new NoSuchElementException("not so many different numbers");
        }
        return groups[i];
    }

    public int before(int number, int from, int to) throws IllegalArgumentException {
        checkNumber(number, KINDS - 1);
        checkPart(from, to);
        int notAbove = tree.countBelow(number + 1, from, to);
        return notAbove == 0 ? -1 : numberOf(tree.groupOf(from, to, notAbove - 1));
    }

    public int most(int from, int to) throws IllegalArgumentException {
        checkPart(from, to);
        int best = -1;
        int bestTimes = 0;
        int seen = 0;
        for (int kind = 0; kind < KINDS && seen < to - from; kind++) {
            int group = tree.groupOf(from, to, seen);
            int times = timesIn(group);
            // The groups come from the least number on, so an equal one never takes the place of a lesser.
            if (times > bestTimes) {
                best = numberOf(group);
                bestTimes = times;
            }
            seen += times;
        }
        return best;
    }

    public int count(int what) {
        if (what == 0) {
            return rowLength;
        }
        return what == 1 ? tree.size() : -1;
    }

    private static void checkNumber(int number, int greatest) {
        if (number < 0 || number > greatest) {
            throw new IllegalArgumentException("not a number of the range");
        }
    }

    private void checkPart(int from, int to) {
        if (from < 0 || from > to || to > tree.size()) {
            throw new IllegalArgumentException("not a part of the tree");
        }
    }

    private static int numberOf(int group) {
        return group / TIMES_BASE;
    }

    private static int timesIn(int group) {
        return group % TIMES_BASE;
    }

    /**
     * The nine levels, the highest bit first. Each level holds the numbers in the order that the
     * levels above left: those with a zero there in front of those with a one, otherwise as before.
     * So all numbers of a part that share their upper bits stand side by side.
     */
    private static final class Tree {
        private final Level[] levels = new Level[LEVELS];
        private final int[] order = new int[ROOM];
        private final int[] aside = new int[ROOM];
        private int length;

        Tree() {
            for (int depth = 0; depth < LEVELS; depth++) {
                levels[depth] = new Level();
            }
            length = 0;
        }

        int size() {
            return length;
        }

        void fill(int[] numbers, int newLength) {
            length = newLength;
            System.arraycopy(numbers, 0, order, 0, newLength);
            for (int depth = 0; depth < LEVELS; depth++) {
                levels[depth].fill(order, newLength, shiftOf(depth));
                putZerosInFront(shiftOf(depth));
            }
        }

        private void putZerosInFront(int shift) {
            int zeros = 0;
            int ones = 0;
            for (int i = 0; i < length; i++) {
                int number = order[i];
                if ((number >> shift & 1) == 0) {
                    order[zeros] = number;
                    zeros++;
                } else {
                    aside[ones] = number;
                    ones++;
                }
            }
            System.arraycopy(aside, 0, order, zeros, ones);
        }

        int numberAt(int place) {
            int number = 0;
            int here = place;
            for (int depth = 0; depth < LEVELS; depth++) {
                int bit = levels[depth].bitAt(here);
                number = number * 2 + bit;
                here = levels[depth].down(bit, here);
            }
            return number;
        }

        int timesOf(int number, int from, int to) {
            return bottomOf(number, to) - bottomOf(number, from);
        }

        /** Where a number would stand below the last level if it stood at a place of the first. */
        private int bottomOf(int number, int place) {
            int here = place;
            for (int depth = 0; depth < LEVELS; depth++) {
                here = levels[depth].down(number >> shiftOf(depth) & 1, here);
            }
            return here;
        }

        /** Asked only for a k below the times that the number stands in the whole tree. */
        int placeOf(int number, int k) {
            int here = bottomOf(number, 0) + k;
            for (int depth = LEVELS - 1; depth >= 0; depth--) {
                here = levels[depth].up(number >> shiftOf(depth) & 1, here);
            }
            return here;
        }

        /** The k-th least number of a part that has so many, times 4,096, and how often it stands there. */
        int groupOf(int from, int to, int k) {
            int number = 0;
            int first = from;
            int end = to;
            int left = k;
            for (int depth = 0; depth < LEVELS; depth++) {
                Level level = levels[depth];
                int zeros = level.down(0, end) - level.down(0, first);
                int bit = left < zeros ? 0 : 1;
                if (bit == 1) {
                    left -= zeros;
                }
                number = number * 2 + bit;
                first = level.down(bit, first);
                end = level.down(bit, end);
            }
            return number * TIMES_BASE + (end - first);
        }

        int countBelow(int number, int from, int to) {
            // 512 has a bit above the highest level.
            if (number >= KINDS) {
                return to - from;
            }
            int below = 0;
            int first = from;
            int end = to;
            for (int depth = 0; depth < LEVELS; depth++) {
                Level level = levels[depth];
                int bit = number >> shiftOf(depth) & 1;
                if (bit == 1) {
                    below += level.down(0, end) - level.down(0, first);
                }
                first = level.down(bit, first);
                end = level.down(bit, end);
            }
            return below;
        }

        private static int shiftOf(int depth) {
            return LEVELS - 1 - depth;
        }
    }

    /** One bit of each number, and for each word of bits how many ones stand before it. */
    private static final class Level {
        private final int[] words = new int[WORDS];
        private final int[] ranks = new int[WORDS];
        private int length;
        private int zeros;

        Level() {
            length = 0;
            zeros = 0;
        }

        void fill(int[] numbers, int newLength, int shift) {
            Arrays.fill(words, 0);
            for (int i = 0; i < newLength; i++) {
                words[i / WORD_BITS] |= (numbers[i] >> shift & 1) << i % WORD_BITS;
            }
            int ones = 0;
            for (int word = 0; word < WORDS; word++) {
                ranks[word] = ones;
                ones += Integer.bitCount(words[word]);
            }
            length = newLength;
            zeros = newLength - ones;
        }

        int bitAt(int place) {
            return words[place / WORD_BITS] >>> place % WORD_BITS & 1;
        }

        /** Where a place of this level comes to on the next one if its bit is this. */
        int down(int bit, int place) {
            return bit == 1 ? zeros + onesBefore(place) : place - onesBefore(place);
        }

        /** The place of this level that has this bit and comes to a place of the next one. */
        int up(int bit, int nextPlace) {
            int place = 0;
            for (int step = FIRST_STEP; step > 0; step /= 2) {
                // The last place that comes no further than there is the one that has the bit.
                if (place + step < length && down(bit, place + step) <= nextPlace) {
                    place += step;
                }
            }
            return place;
        }

        private int onesBefore(int place) {
            int word = place / WORD_BITS;
            int bitsBefore = (1 << place % WORD_BITS) - 1;
            return ranks[word] + Integer.bitCount(words[word] & bitsBefore);
        }
    }
}
