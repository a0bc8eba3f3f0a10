/**
 * The objects that the boundary tests ask. Row, tree and the numbers of the latest different are as
 * unlike one another as they can be, so that an answer which is taken from the wrong one is seen.
 */
enum Scene {
    NEW(numbers(), numbers(), numbers()) {
        @Override
        LevelTree make() {
            return new LevelTree();
        }
    },
    NEVER_BUILT(numbers(7, 2, 511), numbers(), numbers()) {
        @Override
        LevelTree make() {
            LevelTree x = new LevelTree();
            x.add(7, 2, 511);
            return x;
        }
    },
    NEVER_ASKED(sample(), sample(), numbers()) {
        @Override
        LevelTree make() {
            return builtSample();
        }
    },
    BUILT(sample(), sample(), wholeSample()) {
        @Override
        LevelTree make() {
            LevelTree x = builtSample();
            x.different(0, 9);
            return x;
        }
    },
    ROW_LONGER(numbers(7, 2, 7, 511, 0, 2, 7, 0, 300, 1, 7, 3), sample(), numbers(2 * 4096 + 1, 7 * 4096 + 2)) {
        @Override
        LevelTree make() {
            LevelTree x = builtSample();
            x.different(0, 3);
            x.add(1, 7, 3);
            return x;
        }
    },
    ROW_SHORTER(numbers(7, 2, 7, 511), sample(), numbers(1, 2 * 4096 + 1, 7 * 4096 + 2, 511 * 4096 + 1)) {
        @Override
        LevelTree make() {
            LevelTree x = builtSample();
            x.different(2, 7);
            x.cut(4);
            return x;
        }
    },
    BUILT_ANEW(numbers(100, 7, 100), numbers(100, 7, 100), wholeSample()) {
        @Override
        LevelTree make() {
            LevelTree x = builtSample();
            x.different(0, 9);
            x.cut(0);
            x.add(100, 7, 100);
            x.build();
            return x;
        }
    },
    EMPTIED(numbers(), numbers(), numbers(2 * 4096 + 1, 7 * 4096 + 2)) {
        @Override
        LevelTree make() {
            LevelTree x = builtSample();
            x.different(0, 3);
            x.cut(0);
            x.build();
            return x;
        }
    };

    /** What THE ROW, the TREE and the answers of number are. */
    final int[] row;
    final int[] tree;
    final int[] groups;

    Scene(int[] row, int[] tree, int[] groups) {
        this.row = row;
        this.tree = tree;
        this.groups = groups;
    }

    abstract LevelTree make();

    /** 0 and 511 among them, two numbers twice, one three times. */
    static int[] sample() {
        return numbers(7, 2, 7, 511, 0, 2, 7, 0, 300);
    }

    static LevelTree builtSample() {
        LevelTree x = new LevelTree();
        x.add(7, 2, 7);
        x.add(511, 0, 2);
        x.add(7, 0, 300);
        x.build();
        return x;
    }

    private static int[] wholeSample() {
        return numbers(2, 2 * 4096 + 2, 7 * 4096 + 3, 300 * 4096 + 1, 511 * 4096 + 1);
    }

    static int[] numbers(int... numbers) {
        return numbers;
    }
}
