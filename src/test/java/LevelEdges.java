/** Edges of divisions into levels and of penalties for levels: promises 21 to 24. */
final class LevelEdges extends Edges {
    LevelEdges(Checks checks) {
        super(checks);
    }

    @Override
    void check() {
        fewerThanKGroups();
        oneLevelAndAllLevels();
        errorsInLowestTerms();
        longestFirst();
        longestSecond();
        nearlyEqualDivisions();
        eachLevelHasAGroup();
        leastNumberOfLevels();
        withoutPenalty();
        greatestPenalties();
        leastPenalty();
        penaltyWithoutNeed();
        penaltyOverSomeNumbers();
        penaltiesInLowestTerms();
        withoutPoints();
        wrongArguments();
        refusedInOrder();
    }

    private void dueError(ShapeFits x, int k, long numerator, long denominator) {
        checks.dueFraction("levelError(" + k + ")", Checks.levelError(x, k), numerator,
                denominator);
    }

    private void dueBegins(ShapeFits x, int... begins) {
        int k = begins.length;
        for (int level = 0; level < k; level++) {
            checks.due("levelBegin(" + k + ", " + level + ")", x.levelBegin(k, level),
                    begins[level]);
        }
    }

    private void dueLevels(ShapeFits x, int numerator, int denominator, int levels) {
        checks.due("levels(" + numerator + ", " + denominator + ")",
                x.levels(numerator, denominator), levels);
    }

    private void duePenalty(ShapeFits x, int most, long numerator, long denominator) {
        checks.dueFraction("penaltyFor(" + most + ")", Checks.penaltyFor(x, most), numerator,
                denominator);
    }

    private static ShapeFits equal(int groups) {
        return Checks.values(new int[groups]);
    }

    private static ShapeFits rising() {
        return Checks.values(0, 1, 2, 3, 4, 5, 6, 7, 8, 9, 10, 11);
    }

    private void fewerThanKGroups() {
        for (int groups = 0; groups <= 12; groups++) {
            ShapeFits x = equal(groups);
            for (int k = 1; k <= 12; k++) {
                checks.sentence(21, "NOT_FOUND if there are fewer than k groups");
                checks.due("levelError(" + k + ", 1) of " + groups, x.levelError(k, 1),
                        k <= groups ? 1 : NOT_FOUND);
                checks.sentence(22, "NOT_FOUND if there are fewer than k groups");
                checks.due("levelBegin(" + k + ", k - 1) of " + groups, x.levelBegin(k, k - 1),
                        k <= groups ? groups - 1 - (k == 1 ? groups - 1 : 0) : NOT_FOUND);
            }
        }
        checks.sentence(21, "NOT_FOUND if there are fewer than k groups");
        ShapeFits one = Checks.with(4, 1, 1, 4, 2, 1, 4, 3, 1);
        checks.due("levelError(2, 0): 3 points, 1 group", one.levelError(2, 0), NOT_FOUND);
        dueError(one, 1, 2, 1);
    }

    private void oneLevelAndAllLevels() {
        ShapeFits x = rising();
        checks.sentence(21, "k: 1 to 12");
        dueError(x, 1, 143, 1);
        dueError(x, 11, 1, 2);
        dueError(x, 12, 0, 1);
        checks.sentence(22, "level: 0 to k - 1");
        dueBegins(x, 0);
        dueBegins(x, 0, 1, 2, 3, 4, 5, 6, 7, 8, 9, 10, 11);
        dueBegins(x, 0, 2, 3, 4, 5, 6, 7, 8, 9, 10, 11);
        checks.sentence(21, "Its error is that of its fit (also within groups)");
        ShapeFits y = Checks.with(0, 99, 2, 0, -99, 2, 40, 1, 1);
        dueError(y, 2, 39204, 1);
        dueError(y, 1, 196024, 5);
    }

    private void errorsInLowestTerms() {
        checks.sentence(21, "in lowest terms with a positive denominator (0 as 0 / 1)");
        dueError(Checks.values(1, 2), 1, 1, 2);
        dueError(Checks.values(1, 2), 2, 0, 1);
        dueError(Checks.with(0, 1, 1, 9, 0, 2), 1, 2, 3);
        dueError(Checks.with(0, 1, 1, 1, 0, 2, 2, 50, 2, 3, 51, 2, 3, 50, 1), 2, 28, 15);
        dueError(equal(12), 7, 0, 1);
    }

    private void longestFirst() {
        checks.sentence(22, "of several the one whose first sequence is longest");
        dueBegins(Checks.values(0, 1, 0), 0, 2);
        dueBegins(Checks.values(0, 1, 2), 0, 2);
        dueBegins(equal(12), 0, 11);
        dueBegins(equal(12), 0, 8, 9, 10, 11);
        dueBegins(equal(2), 0, 1);
        checks.sentence(21, "of several the one whose first sequence is longest");
        dueError(Checks.values(0, 1, 0), 2, 1, 2);
    }

    private void longestSecond() {
        checks.sentence(22, "of these the one whose second sequence is longest, and so on");
        dueBegins(Checks.values(9, 0, 0, 0), 0, 1, 3);
        dueBegins(Checks.values(9, 0, 1, 0), 0, 1, 3);
        dueBegins(Checks.values(9, 0, 1, 0, 9), 0, 1, 3, 4);
        dueBegins(Checks.values(9, 0, 9, 5, 5, 5), 0, 1, 2, 3, 5);
        dueBegins(Checks.values(1, 1, 5, 5, 5, 9, 9, 9), 0, 2, 5, 7);
        dueBegins(Checks.values(1, 1, 5, 5, 5, 9, 9, 9), 0, 2, 5, 6, 7);
    }

    private void nearlyEqualDivisions() {
        checks.sentence(22, "The best division is the one with the least error");
        ShapeFits x = Checks.with(0, -10, 2, 1, 0, 2, 2, 10, 2);
        dueBegins(x, 0, 2);
        x.setPoint(1, 1, 2);
        dueBegins(x, 0, 1);
        x.setPoint(1, -1, 2);
        dueBegins(x, 0, 2);
        x.setPoint(1, 0, 2);
        x.setPoint(0, -10, 1);
        dueBegins(x, 0, 2);
        x.setPoint(0, -10, 2);
        x.setPoint(2, 10, 1);
        dueBegins(x, 0, 1);
    }

    private void eachLevelHasAGroup() {
        checks.sentence(22, "k sequences of successive groups, at least one in each");
        for (int groups = 1; groups <= 12; groups++) {
            ShapeFits x = equal(groups);
            for (int k = 1; k <= groups; k++) {
                checks.due("levelBegin(" + k + ", 0)", x.levelBegin(k, 0), 0);
                for (int level = 1; level < k; level++) {
                    checks.due("levelBegin(" + k + ", " + level + ") of " + groups,
                            x.levelBegin(k, level), groups - k + level);
                }
            }
        }
    }

    /** The errors are 5, 1, 1 / 2 and 0. */
    private static ShapeFits four() {
        return Checks.values(0, 1, 2, 3);
    }

    private void leastNumberOfLevels() {
        checks.sentence(23, "the least cost for a penalty, of several the least one");
        dueLevels(four(), 1, 2, 2);
        dueLevels(four(), 50, 100, 2);
        dueLevels(four(), 49, 100, 4);
        dueLevels(four(), 4, 1, 1);
        dueLevels(four(), 400, 100, 1);
        dueLevels(four(), 399, 100, 2);
        dueLevels(Checks.values(0, 10, 0), 100, 3, 1);
        dueLevels(Checks.values(0, 10, 0), 99, 3, 3);
        dueLevels(Checks.values(0, 10, 0), 1666, 50, 3);
    }

    private void withoutPenalty() {
        checks.sentence(23, "numerator: 0 to 1000000 (of several the least number)");
        dueLevels(rising(), 0, 1, 12);
        dueLevels(rising(), 0, 100, 12);
        dueLevels(equal(12), 0, 1, 1);
        dueLevels(Checks.values(1, 1, 2, 2, 2, 1), 0, 1, 3);
        dueLevels(Checks.values(1), 0, 1, 1);
        dueLevels(Checks.with(1, 1, 1, 1, 9, 1), 0, 1, 1);
        dueLevels(Checks.values(0, 1), 1, 100, 2);
    }

    private void greatestPenalties() {
        checks.sentence(23, "numerator: 0 to 1000000; denominator: 1 to 100");
        ShapeFits x = new ShapeFits();
        for (int i = 0; i < 12; i++) {
            x.add(i, i < 6 ? -99 : 99, 2);
        }
        dueLevels(x, 1000000, 1, 1);
        dueLevels(x, 1000000, 100, 2);
        dueLevels(x, 1000000, 5, 2);
        dueLevels(x, 1000000, 4, 1);
        dueLevels(x, 235224, 1, 1);
        dueLevels(x, 235223, 1, 2);
        checks.sentence(24, "the least penalty (with the greatest errors)");
        duePenalty(x, 1, 235224, 1);
        duePenalty(x, 2, 0, 1);
    }

    private void leastPenalty() {
        checks.sentence(24, "the least penalty for which the number of levels is at most");
        duePenalty(four(), 1, 4, 1);
        duePenalty(four(), 2, 1, 2);
        duePenalty(four(), 3, 1, 2);
        duePenalty(four(), 4, 0, 1);
        for (int most = 1; most <= 11; most++) {
            dueLeastPenalty(rising(), most);
            dueLeastPenalty(Checks.values(9, 9, 9, 0, 0, 0, 0, 1, 2, 3, -50, 7), most);
        }
    }

    /** The number of levels is at most the given one at the penalty, but above it just below. */
    private void dueLeastPenalty(ShapeFits x, int most) {
        int numerator = (int) x.penaltyFor(most, 0);
        int denominator = (int) x.penaltyFor(most, 1);
        int levels = x.levels(numerator, denominator);
        checks.due("levels at the penalty for " + most, Math.max(levels, most), most);
        if (numerator > 0) {
            int scale = 100 / denominator;
            int more = x.levels(numerator * scale - 1, denominator * scale);
            checks.due("levels below the penalty for " + most, Math.min(more, most + 1), most + 1);
        }
    }

    private void penaltyWithoutNeed() {
        checks.sentence(24, "the least penalty, at least 0");
        for (int groups = 1; groups <= 12; groups++) {
            for (int most = 1; most <= 12; most++) {
                duePenalty(equal(groups), most, 0, 1);
            }
        }
        duePenalty(rising(), 11, 1, 2);
        duePenalty(rising(), 12, 0, 1);
        duePenalty(Checks.values(0, 9), 2, 0, 1);
        duePenalty(Checks.values(0, 9), 12, 0, 1);
        duePenalty(Checks.values(1, 1, 2, 2, 2, 1), 3, 0, 1);
        duePenalty(Checks.values(1, 1, 2, 2, 2, 1), 5, 0, 1);
        duePenalty(Checks.with(1, 1, 1, 1, 9, 1), 1, 0, 1);
    }

    /** The errors are 200 / 3, 50 and 0: two levels never have the least cost. */
    private void penaltyOverSomeNumbers() {
        checks.sentence(24, "the number of levels with the least cost is at most a given number");
        ShapeFits x = Checks.values(0, 10, 0);
        duePenalty(x, 1, 100, 3);
        duePenalty(x, 2, 100, 3);
        duePenalty(x, 3, 0, 1);
        ShapeFits y = Checks.values(0, 0, 6, 0, 0);
        duePenalty(y, 1, 72, 5);
        duePenalty(y, 2, 72, 5);
        duePenalty(y, 3, 0, 1);
    }

    private void penaltiesInLowestTerms() {
        checks.sentence(24, "in lowest terms with a positive denominator (0 as 0 / 1)");
        duePenalty(Checks.with(0, 1, 1, 9, 0, 2), 1, 2, 3);
        duePenalty(Checks.values(1, 3), 1, 2, 1);
        duePenalty(Checks.values(1, 2), 1, 1, 2);
        duePenalty(Checks.values(5, 5), 1, 0, 1);
    }

    private void withoutPoints() {
        ShapeFits x = Checks.with(4, 4, 1);
        x.remove(0);
        checks.sentence(21, "NOT_FOUND if there are fewer than k groups");
        checks.due("levelError(1, 0)", x.levelError(1, 0), NOT_FOUND);
        checks.due("levelError(12, 1)", x.levelError(12, 1), NOT_FOUND);
        checks.sentence(22, "NOT_FOUND if there are fewer than k groups");
        checks.due("levelBegin(1, 0)", x.levelBegin(1, 0), NOT_FOUND);
        checks.sentence(23, "NOT_POSSIBLE if there are no points");
        checks.due("levels(0, 1)", x.levels(0, 1), NOT_POSSIBLE);
        checks.due("levels(1000000, 100)", x.levels(1000000, 100), NOT_POSSIBLE);
        checks.sentence(24, "NOT_POSSIBLE if there are no points");
        checks.due("penaltyFor(1, 0)", x.penaltyFor(1, 0), NOT_POSSIBLE);
        checks.due("penaltyFor(12, 1)", x.penaltyFor(12, 1), NOT_POSSIBLE);
    }

    private void wrongArguments() {
        ShapeFits x = rising();
        checks.sentence(21, "k: 1 to 12; what: 0 or 1");
        checks.due("levelError(0, 0)", x.levelError(0, 0), INVALID);
        checks.due("levelError(13, 0)", x.levelError(13, 0), INVALID);
        checks.due("levelError(1, 2)", x.levelError(1, 2), INVALID);
        checks.due("levelError(1, -1)", x.levelError(1, -1), INVALID);
        checks.sentence(22, "k: 1 to 12; level: 0 to k - 1");
        checks.due("levelBegin(0, 0)", x.levelBegin(0, 0), INVALID);
        checks.due("levelBegin(13, 0)", x.levelBegin(13, 0), INVALID);
        for (int k = 1; k <= 12; k++) {
            checks.due("levelBegin(" + k + ", k)", x.levelBegin(k, k), INVALID);
            checks.due("levelBegin(" + k + ", -1)", x.levelBegin(k, -1), INVALID);
        }
        checks.sentence(23, "numerator: 0 to 1000000; denominator: 1 to 100");
        checks.due("levels(-1, 1)", x.levels(-1, 1), INVALID);
        checks.due("levels(1000001, 1)", x.levels(1000001, 1), INVALID);
        checks.due("levels(0, 0)", x.levels(0, 0), INVALID);
        checks.due("levels(0, 101)", x.levels(0, 101), INVALID);
        checks.due("levels(0, -1)", x.levels(0, -1), INVALID);
        checks.sentence(24, "most: 1 to 12; what: 0 or 1");
        checks.due("penaltyFor(0, 0)", x.penaltyFor(0, 0), INVALID);
        checks.due("penaltyFor(13, 0)", x.penaltyFor(13, 0), INVALID);
        checks.due("penaltyFor(1, 2)", x.penaltyFor(1, 2), INVALID);
        checks.due("penaltyFor(1, -1)", x.penaltyFor(1, -1), INVALID);
    }

    private void refusedInOrder() {
        ShapeFits none = new ShapeFits();
        checks.sentence(21, "INVALID_ARGUMENT is returned rather than NOT_FOUND");
        checks.due("levelError(13, 0) of none", none.levelError(13, 0), INVALID);
        checks.due("levelError(0, 0) of none", none.levelError(0, 0), INVALID);
        checks.due("levelError(12, 2) of none", none.levelError(12, 2), INVALID);
        checks.sentence(22, "INVALID_ARGUMENT is returned rather than NOT_FOUND");
        checks.due("levelBegin(13, 0) of none", none.levelBegin(13, 0), INVALID);
        checks.due("levelBegin(12, 12) of none", none.levelBegin(12, 12), INVALID);
        checks.due("levelBegin(1, -1) of none", none.levelBegin(1, -1), INVALID);
        checks.sentence(23, "INVALID_ARGUMENT is returned rather than NOT_POSSIBLE");
        checks.due("levels(1000001, 1) of none", none.levels(1000001, 1), INVALID);
        checks.due("levels(0, 0) of none", none.levels(0, 0), INVALID);
        checks.sentence(24, "INVALID_ARGUMENT is returned rather than NOT_POSSIBLE");
        checks.due("penaltyFor(13, 0) of none", none.penaltyFor(13, 0), INVALID);
        checks.due("penaltyFor(1, 2) of none", none.penaltyFor(1, 2), INVALID);
    }
}
