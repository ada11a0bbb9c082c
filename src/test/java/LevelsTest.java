/** Promises 21 to 24: divisions into levels, and penalties for levels. */
public final class LevelsTest {
    private static final int INVALID = -1000001;
    private static final int NOT_POSSIBLE = -1000002;
    private static final int NOT_FOUND = -1000004;

    private static final Checks CHECKS = new Checks("LevelsTest");

    public static void main(String[] args) {
        steps();
        longestFirst();
        neverCheapest();
        membersAndWeights();
        equalValues();
        greatestNumbers();
        wrongArguments();
        noPoints();
        CHECKS.finish();
    }

    private static void due(int promise, String call, long got, long want) {
        CHECKS.due(promise, call, got, want);
    }

    private static void dueError(ShapeFits x, int k, long numerator, long denominator) {
        CHECKS.dueFraction(21, "levelError(" + k + ")", Checks.levelError(x, k), numerator,
                denominator);
    }

    private static void dueBegins(ShapeFits x, int... begins) {
        int k = begins.length;
        for (int level = 0; level < k; level++) {
            due(22, "levelBegin(" + k + ", " + level + ")", x.levelBegin(k, level), begins[level]);
        }
    }

    private static void dueLevels(ShapeFits x, int numerator, int denominator, int levels) {
        due(23, "levels(" + numerator + ", " + denominator + ")", x.levels(numerator, denominator),
                levels);
    }

    private static void duePenalty(ShapeFits x, int most, long numerator, long denominator) {
        CHECKS.dueFraction(24, "penaltyFor(" + most + ")", Checks.penaltyFor(x, most), numerator,
                denominator);
    }

    /** The errors are 5, 1, 1/2 and 0. */
    private static void steps() {
        ShapeFits x = Checks.values(0, 1, 2, 3);
        dueError(x, 1, 5, 1);
        dueError(x, 2, 1, 1);
        dueError(x, 3, 1, 2);
        dueError(x, 4, 0, 1);
        dueBegins(x, 0);
        dueBegins(x, 0, 2);
        dueBegins(x, 0, 2, 3);
        dueBegins(x, 0, 1, 2, 3);
        dueLevels(x, 0, 1, 4);
        dueLevels(x, 49, 100, 4);
        dueLevels(x, 1, 2, 2);
        dueLevels(x, 399, 100, 2);
        dueLevels(x, 4, 1, 1);
        dueLevels(x, 1000000, 1, 1);
        duePenalty(x, 1, 4, 1);
        duePenalty(x, 2, 1, 2);
        duePenalty(x, 3, 1, 2);
        duePenalty(x, 4, 0, 1);
        duePenalty(x, 12, 0, 1);
    }

    private static void longestFirst() {
        ShapeFits x = Checks.values(0, 1, 0);
        dueError(x, 2, 1, 2);
        dueBegins(x, 0, 2);
        ShapeFits y = Checks.values(4, 4, 4, 4, 4);
        dueBegins(y, 0, 4);
        dueBegins(y, 0, 3, 4);
        dueBegins(y, 0, 2, 3, 4);
        ShapeFits z = Checks.values(9, 0, 1, 0, 9);
        dueBegins(z, 0, 1, 3, 4);
    }

    /** The errors are 200/3, 50 and 0: two levels are never cheapest. */
    private static void neverCheapest() {
        ShapeFits x = Checks.values(0, 10, 0);
        dueError(x, 1, 200, 3);
        dueError(x, 2, 50, 1);
        dueLevels(x, 33, 1, 3);
        dueLevels(x, 100, 3, 1);
        dueLevels(x, 3333, 100, 3);
        duePenalty(x, 1, 100, 3);
        duePenalty(x, 2, 100, 3);
        duePenalty(x, 3, 0, 1);
    }

    private static void membersAndWeights() {
        ShapeFits x = Checks.with(7, 4, 2, 2, 0, 1, 7, 1, 1, 30, 2, 2);
        dueError(x, 3, 6, 1);
        dueError(x, 2, 36, 5);
        dueBegins(x, 0, 1);
        dueError(x, 1, 77, 6);
        duePenalty(x, 2, 6, 5);
        duePenalty(x, 1, 169, 30);
        duePenalty(x, 3, 0, 1);
        due(22, "levelBegin(3, 2) first", Checks.values(1, 5, 9).levelBegin(3, 2), 2);
        due(23, "levels(0, 1) first", Checks.values(1, 5, 9).levels(0, 1), 3);
        due(24, "penaltyFor(2, 0) first", Checks.values(1, 5, 9).penaltyFor(2, 0), 8);
    }

    private static void equalValues() {
        ShapeFits x = Checks.values(-3, -3, -3);
        for (int k = 1; k <= 3; k++) {
            dueError(x, k, 0, 1);
            duePenalty(x, k, 0, 1);
        }
        dueLevels(x, 0, 100, 1);
    }

    private static void greatestNumbers() {
        ShapeFits x = new ShapeFits();
        for (int i = 0; i < 12; i++) {
            x.add(3 * i, i % 2 == 0 ? 99 : -99, 2);
        }
        dueError(x, 1, 235224, 1);
        dueError(x, 12, 0, 1);
        dueBegins(x, 0, 1, 2, 3, 4, 5, 6, 7, 8, 9, 10, 11);
        dueLevels(x, 1000000, 100, 12);
        dueLevels(x, 1000000, 1, 1);
        dueLevels(x, 21384, 1, 1);
        dueLevels(x, 21383, 1, 12);
        duePenalty(x, 1, 21384, 1);
        duePenalty(x, 11, 21384, 1);
        duePenalty(x, 12, 0, 1);
    }

    private static void wrongArguments() {
        ShapeFits x = Checks.values(1, 2);
        int[][] errors = {{0, 0}, {13, 0}, {1, -1}, {1, 2}, {12, 2}, {Integer.MIN_VALUE, 0}};
        for (int[] w : errors) {
            due(21, "levelError(" + w[0] + ", " + w[1] + ")", x.levelError(w[0], w[1]), INVALID);
        }
        due(21, "levelError(3, 0)", x.levelError(3, 0), NOT_FOUND);
        due(21, "levelError(12, 1)", x.levelError(12, 1), NOT_FOUND);
        int[][] begins = {{0, 0}, {13, 0}, {1, -1}, {1, 1}, {12, 12}, {Integer.MIN_VALUE, 0}};
        for (int[] w : begins) {
            due(22, "levelBegin(" + w[0] + ", " + w[1] + ")", x.levelBegin(w[0], w[1]), INVALID);
        }
        due(22, "levelBegin(3, 0)", x.levelBegin(3, 0), NOT_FOUND);
        due(22, "levelBegin(12, 11)", x.levelBegin(12, 11), NOT_FOUND);
        int[][] levels = {{-1, 1}, {1000001, 1}, {0, 0}, {0, 101}, {0, -1}};
        for (int[] w : levels) {
            due(23, "levels(" + w[0] + ", " + w[1] + ")", x.levels(w[0], w[1]), INVALID);
        }
        int[][] penalties = {{0, 0}, {13, 0}, {1, -1}, {1, 2}};
        for (int[] w : penalties) {
            due(24, "penaltyFor(" + w[0] + ", " + w[1] + ")", x.penaltyFor(w[0], w[1]), INVALID);
        }
    }

    private static void noPoints() {
        ShapeFits x = new ShapeFits();
        due(21, "levelError(1, 0)", x.levelError(1, 0), NOT_FOUND);
        due(21, "levelError(1, 2)", x.levelError(1, 2), INVALID);
        due(22, "levelBegin(1, 0)", x.levelBegin(1, 0), NOT_FOUND);
        due(22, "levelBegin(1, 1)", x.levelBegin(1, 1), INVALID);
        due(23, "levels(0, 1)", x.levels(0, 1), NOT_POSSIBLE);
        due(23, "levels(0, 0)", x.levels(0, 0), INVALID);
        due(24, "penaltyFor(1, 0)", x.penaltyFor(1, 0), NOT_POSSIBLE);
        due(24, "penaltyFor(13, 0)", x.penaltyFor(13, 0), INVALID);
    }
}
