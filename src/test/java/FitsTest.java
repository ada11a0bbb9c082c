/** Promises 12 to 17: rising and falling fits, fits with a peak or a valley, and their blocks. */
public final class FitsTest {
    private static final int INVALID = -1000001;
    private static final int NOT_POSSIBLE = -1000002;
    private static final int NOT_FOUND = -1000004;

    private static final Checks CHECKS = new Checks("FitsTest");

    public static void main(String[] args) {
        fourValues();
        twoEqualPeaks();
        weightsAndMembers();
        poolingBackwards();
        equalMeansAreOneBlock();
        twelveBlocks();
        leastDifference();
        greatestNumbers();
        onePoint();
        wrongArguments();
        noPoints();
        CHECKS.finish();
    }

    private static void due(int promise, String call, long got, long want) {
        CHECKS.due(promise, call, got, want);
    }

    /** Checks the numbers of a fit, given as numerator and denominator for each group. */
    private static void dueFit(ShapeFits x, int kind, int... fractions) {
        for (int group = 0; 2 * group < fractions.length; group++) {
            CHECKS.dueFraction(12, "fit(" + kind + ", " + group + ")", Checks.fit(x, kind, group),
                    fractions[2 * group], fractions[2 * group + 1]);
        }
    }

    private static void dueError(ShapeFits x, int kind, long numerator, long denominator) {
        CHECKS.dueFraction(13, "error(" + kind + ")", Checks.error(x, kind), numerator,
                denominator);
    }

    private static void dueTurnError(ShapeFits x, int kind, int turn, long num, long den) {
        CHECKS.dueFraction(15, "turnError(" + kind + ", " + turn + ")",
                Checks.turnError(x, kind, turn), num, den);
    }

    /** Checks first group, last group, weight and moment of a block. */
    private static void dueBlock(ShapeFits x, int kind, int block, int... due) {
        for (int what = 0; what < 4; what++) {
            due(17, "blockInfo(" + kind + ", " + block + ", " + what + ")",
                    x.blockInfo(kind, block, what), due[what]);
        }
    }

    private static void fourValues() {
        ShapeFits x = Checks.values(1, 3, 2, 4);
        dueFit(x, 0, 1, 1, 5, 2, 5, 2, 4, 1);
        dueError(x, 0, 1, 2);
        due(16, "blocks(0)", x.blocks(0), 3);
        dueBlock(x, 0, 1, 1, 2, 2, 5);
        dueBlock(x, 0, 2, 3, 3, 1, 4);
        dueFit(x, 1, 5, 2, 5, 2, 5, 2, 5, 2);
        dueError(x, 1, 5, 1);
        due(16, "blocks(1)", x.blocks(1), 1);
        dueBlock(x, 1, 0, 0, 3, 4, 10);
        dueFit(x, 2, 1, 1, 5, 2, 5, 2, 4, 1);
        due(14, "turn(2)", x.turn(2), 3);
        dueTurnError(x, 2, 0, 5, 1);
        dueTurnError(x, 2, 1, 2, 1);
        dueTurnError(x, 2, 2, 2, 1);
        dueTurnError(x, 2, 3, 1, 2);
        dueFit(x, 3, 1, 1, 5, 2, 5, 2, 4, 1);
        due(14, "turn(3)", x.turn(3), 0);
        dueTurnError(x, 3, 0, 1, 2);
        dueTurnError(x, 3, 1, 2, 1);
        dueTurnError(x, 3, 2, 2, 1);
        dueTurnError(x, 3, 3, 5, 1);
        due(16, "blocks(3)", x.blocks(3), 3);
    }

    private static void twoEqualPeaks() {
        ShapeFits x = Checks.values(5, 0, 5);
        due(14, "turn(2)", x.turn(2), 0);
        dueFit(x, 2, 5, 1, 5, 2, 5, 2);
        dueError(x, 2, 25, 2);
        dueTurnError(x, 2, 0, 25, 2);
        dueTurnError(x, 2, 1, 50, 3);
        dueTurnError(x, 2, 2, 25, 2);
        due(14, "turn(3)", x.turn(3), 1);
        dueFit(x, 3, 5, 1, 0, 1, 5, 1);
        dueError(x, 3, 0, 1);
        x.mirror(1);
        due(14, "turn(2)", x.turn(2), 1);
        due(14, "turn(3)", x.turn(3), 0);
        dueFit(x, 3, -5, 1, -5, 2, -5, 2);
        dueError(x, 3, 25, 2);
        ShapeFits flat = Checks.values(0, 4, 4, 0);
        due(14, "turn(2) of a flat peak", flat.turn(2), 1);
        due(14, "turn(3)", flat.turn(3), 0);
    }

    private static void weightsAndMembers() {
        ShapeFits x = Checks.with(10, 4, 2, 20, 1, 1, 10, 1, 1);
        dueFit(x, 0, 5, 2, 5, 2);
        dueError(x, 0, 9, 1);
        dueFit(x, 1, 3, 1, 1, 1);
        dueError(x, 1, 6, 1);
        dueBlock(x, 0, 0, 0, 1, 4, 10);
        dueBlock(x, 1, 0, 0, 0, 3, 9);
        ShapeFits one = Checks.with(10, 4, 2, 10, 1, 1);
        dueError(one, 0, 6, 1);
        dueTurnError(one, 2, 0, 6, 1);
    }

    private static void poolingBackwards() {
        ShapeFits x = Checks.values(5, 6, 7, -30);
        dueFit(x, 0, -3, 1, -3, 1, -3, 1, -3, 1);
        due(16, "blocks(0)", x.blocks(0), 1);
        dueFit(x, 2, 5, 1, 6, 1, 7, 1, -30, 1);
        due(14, "turn(2)", x.turn(2), 2);
        due(16, "blocks(2)", x.blocks(2), 4);
        dueFit(x, 1, 6, 1, 6, 1, 6, 1, -30, 1);
        due(16, "blocks(1)", x.blocks(1), 2);
        ShapeFits y = Checks.values(0, 9, 8, 1, 7, 6, -4, -5);
        dueFit(y, 2, 0, 1, 9, 1, 8, 1, 14, 3, 14, 3, 14, 3, -4, 1, -5, 1);
        dueTurnError(y, 2, 4, 38, 1);
    }

    private static void equalMeansAreOneBlock() {
        ShapeFits x = Checks.values(2, 2, 3);
        due(16, "blocks(0)", x.blocks(0), 2);
        dueBlock(x, 0, 0, 0, 1, 2, 4);
        ShapeFits y = Checks.values(2, 3, 1, 2);
        due(16, "blocks(0) of equal pools", y.blocks(0), 1);
        dueBlock(y, 0, 0, 0, 3, 4, 8);
        due(16, "blocks(2)", y.blocks(2), 3);
        dueBlock(y, 2, 2, 2, 3, 2, 3);
        due(16, "blocks(1)", Checks.values(7, 7, 7).blocks(1), 1);
        due(16, "blocks(2)", Checks.values(7, 7, 7).blocks(2), 1);
        due(16, "blocks(3)", Checks.values(7, 7, 7).blocks(3), 1);
    }

    private static void twelveBlocks() {
        ShapeFits x = Checks.values(0, 1, 2, 3, 4, 5, 6, 7, 8, 9, 10, 11);
        due(16, "blocks(0)", x.blocks(0), 12);
        dueBlock(x, 0, 11, 11, 11, 1, 11);
        due(17, "blockInfo(0, 12, 0)", x.blockInfo(0, 12, 0), NOT_FOUND);
        dueFit(x, 0, 0, 1, 1, 1, 2, 1, 3, 1, 4, 1, 5, 1, 6, 1, 7, 1, 8, 1, 9, 1, 10, 1, 11, 1);
        due(16, "blocks(1)", x.blocks(1), 1);
        due(16, "blocks(2)", x.blocks(2), 12);
        due(16, "blocks(3)", x.blocks(3), 12);
        x.mirror(0);
        due(16, "blocks(1)", x.blocks(1), 12);
        dueError(x, 0, 143, 1);
    }

    private static void leastDifference() {
        ShapeFits x = Checks.values(0, 1);
        dueTurnError(x, 2, 0, 1, 2);
        dueTurnError(x, 2, 1, 0, 1);
        dueTurnError(x, 3, 0, 0, 1);
        dueTurnError(x, 3, 1, 1, 2);
    }

    private static void greatestNumbers() {
        ShapeFits x = new ShapeFits();
        for (int i = 0; i < 12; i++) {
            x.add(i, i < 6 ? 99 : -99, 2);
        }
        dueFit(x, 0, 0, 1);
        dueError(x, 0, 235224, 1);
        dueError(x, 1, 0, 1);
        due(16, "blocks(1)", x.blocks(1), 2);
        dueBlock(x, 1, 1, 6, 11, 12, -1188);
        dueError(x, 3, 0, 1);
        due(14, "turn(3)", x.turn(3), 6);
        due(14, "turn(2)", x.turn(2), 0);
    }

    private static void onePoint() {
        ShapeFits x = Checks.with(33, -7, 2);
        for (int kind = 0; kind < 4; kind++) {
            dueFit(x, kind, -7, 1);
            dueError(x, kind, 0, 1);
            due(16, "blocks(" + kind + ")", x.blocks(kind), 1);
            dueBlock(x, kind, 0, 0, 0, 2, -14);
        }
        due(14, "turn(2)", x.turn(2), 0);
        due(14, "turn(3)", x.turn(3), 0);
        dueTurnError(x, 3, 0, 0, 1);
    }

    private static void wrongArguments() {
        ShapeFits x = Checks.values(1, 0);
        int[][] fits = {{-1, 0, 0}, {6, 0, 0}, {0, -1, 0}, {0, 2, 0}, {0, 0, -1}, {0, 0, 2}};
        for (int[] w : fits) {
            due(12, "fit(" + w[0] + ", " + w[1] + ", " + w[2] + ")", x.fit(w[0], w[1], w[2]),
                    INVALID);
        }
        due(12, "fit(5, 1, 0)", x.fit(5, 1, 0), 0);
        int[][] errors = {{-1, 0}, {4, 0}, {0, -1}, {0, 2}};
        for (int[] w : errors) {
            due(13, "error(" + w[0] + ", " + w[1] + ")", x.error(w[0], w[1]), INVALID);
        }
        due(14, "turn(1)", x.turn(1), INVALID);
        due(14, "turn(4)", x.turn(4), INVALID);
        int[][] turns = {{1, 0, 0}, {4, 0, 0}, {2, -1, 0}, {2, 2, 0}, {3, 0, -1}, {3, 0, 2}};
        for (int[] w : turns) {
            due(15, "turnError(" + w[0] + ", " + w[1] + ", " + w[2] + ")",
                    x.turnError(w[0], w[1], w[2]), INVALID);
        }
        due(16, "blocks(-1)", x.blocks(-1), INVALID);
        due(16, "blocks(4)", x.blocks(4), INVALID);
        int[][] infos = {{-1, 0, 0}, {4, 0, 0}, {0, -1, 0}, {0, 0, -1}, {0, 0, 4}, {0, 9, 4},
            {4, 9, 0}, {0, Integer.MIN_VALUE, 0}};
        for (int[] w : infos) {
            due(17, "blockInfo(" + w[0] + ", " + w[1] + ", " + w[2] + ")",
                    x.blockInfo(w[0], w[1], w[2]), INVALID);
        }
        due(17, "blockInfo(0, 1, 0)", x.blockInfo(0, 1, 0), NOT_FOUND);
        due(17, "blockInfo(1, 1, 3)", x.blockInfo(1, 1, 3), 0);
        due(17, "blockInfo(1, 2, 0)", x.blockInfo(1, 2, 0), NOT_FOUND);
        due(17, "blockInfo(1, most, 0)", x.blockInfo(1, Integer.MAX_VALUE, 0), NOT_FOUND);
    }

    private static void noPoints() {
        ShapeFits x = new ShapeFits();
        for (int kind = 0; kind < 6; kind++) {
            due(12, "fit(" + kind + ", 0, 0)", x.fit(kind, 0, 0), INVALID);
        }
        for (int kind = 0; kind < 4; kind++) {
            due(13, "error(" + kind + ", 0)", x.error(kind, 0), NOT_POSSIBLE);
            due(16, "blocks(" + kind + ")", x.blocks(kind), 0);
            due(17, "blockInfo(" + kind + ", 0, 0)", x.blockInfo(kind, 0, 0), NOT_FOUND);
        }
        due(13, "error(4, 0)", x.error(4, 0), INVALID);
        due(13, "error(0, 2)", x.error(0, 2), INVALID);
        due(14, "turn(2)", x.turn(2), NOT_POSSIBLE);
        due(14, "turn(3)", x.turn(3), NOT_POSSIBLE);
        due(14, "turn(0)", x.turn(0), INVALID);
        due(15, "turnError(2, 0, 0)", x.turnError(2, 0, 0), INVALID);
    }
}
