/** Edges of the minorant and the majorant, their kinks and their gap: promises 12 and 18 to 20. */
final class HullEdges extends Edges {
    HullEdges(Checks checks) {
        super(checks);
    }

    @Override
    void check() {
        equalToTheMeanAtTheEnds();
        betweenKinks();
        oneAndTwoGroups();
        neitherFirstNorLast();
        straightLine();
        leastDifferenceOfSlopes();
        slopesOverDistances();
        tenKinks();
        firstQuestions();
        lowestGroupOfTheGap();
        gapAtEachGroup();
        gapInLowestTerms();
        withoutPoints();
        wrongArguments();
    }

    /** Checks the number of kinks, each kink, and that no other follows. */
    private void dueKinks(ShapeFits x, int kind, int... groups) {
        checks.sentence(18, "a group, other than the first and the last one, at which the slope");
        checks.due("kinks(" + kind + ")", x.kinks(kind), groups.length);
        checks.sentence(19, "0 for the first one; NOT_FOUND if there are not so many kinks");
        for (int index = 0; index < groups.length; index++) {
            checks.due("kinkAt(" + kind + ", " + index + ")", x.kinkAt(kind, index), groups[index]);
        }
        checks.due("kinkAt behind the last", x.kinkAt(kind, groups.length), NOT_FOUND);
        checks.due("kinkAt far behind", x.kinkAt(kind, Integer.MAX_VALUE), NOT_FOUND);
    }

    /** Each question is the first one to its object. */
    private void firstQuestions() {
        checks.sentence(19, "Returns a kink of a fit");
        checks.due("kinkAt(4, 0) first", Checks.values(9, 0, 9).kinkAt(4, 0), 1);
        checks.due("kinkAt(5, 0) first", Checks.values(0, 9, 0).kinkAt(5, 0), 1);
        checks.due("kinkAt(5, 0) first", Checks.values(9, 0, 9).kinkAt(5, 0), NOT_FOUND);
        checks.sentence(20, "Returns the greatest difference of the majorant and the minorant");
        checks.due("gap(0) first", Checks.values(9, 0, 9).gap(0), 9);
        checks.due("gap(2) first", Checks.values(9, 0, 9).gap(2), 1);
    }

    private void dueGap(ShapeFits x, int numerator, int denominator, int group) {
        checks.sentence(20, "the greatest difference; 2: the lowest group with this difference");
        checks.dueFraction("gap", Checks.gap(x), numerator, denominator);
        checks.due("gap(2)", x.gap(2), group);
    }

    private void equalToTheMeanAtTheEnds() {
        checks.sentence(12, "4 minorant: convex, nowhere above a mean; 5 majorant: the opposite");
        ShapeFits x = Checks.with(0, -99, 1, 20, 99, 2, 40, -99, 2);
        dueFit(x, 4, -99, 1, -99, 1, -99, 1);
        dueFit(x, 5, -99, 1, 99, 1, -99, 1);
        x.mirror(1);
        dueFit(x, 4, 99, 1, -99, 1, 99, 1);
        dueFit(x, 5, 99, 1, 99, 1, 99, 1);
    }

    private void betweenKinks() {
        checks.sentence(12, "The function is linear between kinks");
        ShapeFits x = Checks.with(0, 0, 1, 1, 50, 1, 13, 50, 1, 39, 50, 1, 40, 1, 2);
        dueFit(x, 4, 0, 1, 1, 40, 13, 40, 39, 40, 1, 1);
        dueFit(x, 5, 0, 1, 50, 1, 50, 1, 50, 1, 1, 1);
        x.mirror(1);
        dueFit(x, 5, 0, 1, -1, 40, -13, 40, -39, 40, -1, 1);
    }

    private void oneAndTwoGroups() {
        ShapeFits x = Checks.with(17, 5, 2, 17, 4, 1);
        for (int kind = 4; kind <= 5; kind++) {
            checks.sentence(12, "kind: 0 to 5 (of one group)");
            dueFit(x, kind, 14, 3);
            dueKinks(x, kind);
        }
        dueGap(x, 0, 1, 0);
        x.add(40, -3, 1);
        for (int kind = 4; kind <= 5; kind++) {
            checks.sentence(12, "kind: 0 to 5 (of two groups)");
            dueFit(x, kind, 14, 3, -3, 1);
            dueKinks(x, kind);
        }
        dueGap(x, 0, 1, 0);
    }

    private void neitherFirstNorLast() {
        ShapeFits x = Checks.values(9, 0, 9);
        dueKinks(x, 4, 1);
        dueKinks(x, 5);
        ShapeFits y = Checks.values(9, 0, 0, 9);
        dueKinks(y, 4, 1, 2);
        dueKinks(y, 5);
        y.mirror(1);
        dueKinks(y, 4);
        dueKinks(y, 5, 1, 2);
    }

    private void straightLine() {
        ShapeFits x = Checks.with(0, 0, 2, 1, 1, 1, 1, 0, 2, 3, 1, 1, 40, 40, 1, 40, 0, 2);
        for (int kind = 4; kind <= 5; kind++) {
            checks.sentence(12, "The function is linear between kinks");
            dueFit(x, kind, 0, 1, 1, 3, 1, 1, 40, 3);
            dueKinks(x, kind);
        }
        dueGap(x, 0, 1, 0);
    }

    private void leastDifferenceOfSlopes() {
        int[] twenty = {0, 0, 1, 20, 1, 1, 20, 0, 1, 20, 0, 2, 20, 0, 2, 20, 0, 2, 20, 0, 2, 20,
            0, 2, 20, 0, 2, 20, 0, 2, 20, 0, 2, 40, 0, 1};
        ShapeFits x = Checks.with(twenty);
        dueKinks(x, 4);
        dueKinks(x, 5, 1);
        dueGap(x, 1, 18, 1);
        x.mirror(1);
        dueKinks(x, 4, 1);
        dueKinks(x, 5);
        dueGap(x, 1, 18, 1);
        x.setPoint(1, 0, 1);
        dueKinks(x, 4);
        dueKinks(x, 5);
    }

    private void slopesOverDistances() {
        ShapeFits x = Checks.with(0, 0, 1, 1, 3, 1, 40, 99, 1);
        dueKinks(x, 4);
        dueKinks(x, 5, 1);
        x.setPoint(1, 2, 1);
        dueKinks(x, 4, 1);
        dueKinks(x, 5);
        checks.sentence(12, "at the positions of the groups");
        dueFit(x, 5, 0, 1, 99, 40, 99, 1);
        dueGap(x, 19, 40, 1);
    }

    private void tenKinks() {
        ShapeFits x = new ShapeFits();
        int[] squares = {30, 20, 12, 6, 2, 0, 0, 2, 6, 12, 20, 30};
        for (int i = 0; i < 12; i++) {
            x.add(3 * i, squares[i], 1 + i % 2);
        }
        dueKinks(x, 4, 1, 2, 3, 4, 5, 6, 7, 8, 9, 10);
        dueKinks(x, 5);
        dueGap(x, 30, 1, 5);
        x.mirror(1);
        dueKinks(x, 4);
        dueKinks(x, 5, 1, 2, 3, 4, 5, 6, 7, 8, 9, 10);
    }

    private void lowestGroupOfTheGap() {
        dueGap(Checks.values(4, 4, 4), 0, 1, 0);
        dueGap(Checks.values(0, 6, 6, 0), 6, 1, 1);
        dueGap(Checks.values(0, 6, 6, 6, 0), 6, 1, 1);
        dueGap(Checks.values(0, 5, 6, 0), 6, 1, 2);
        dueGap(Checks.values(0, 6, 5, 0), 6, 1, 1);
        dueGap(Checks.values(0, 1, 0, 0), 1, 1, 1);
        dueGap(Checks.values(0, 0, 1, 0), 1, 1, 2);
    }

    private void gapAtEachGroup() {
        for (int peak = 1; peak < 11; peak++) {
            int[] values = new int[12];
            values[peak] = 99;
            dueGap(Checks.values(values), 99, 1, peak);
            values[peak] = -99;
            dueGap(Checks.values(values), 99, 1, peak);
        }
        dueGap(Checks.values(0, 99, -99, 0), 297, 2, 1);
    }

    private void gapInLowestTerms() {
        dueGap(Checks.with(0, 0, 1, 3, 4, 2, 3, 1, 2, 6, 0, 1), 5, 2, 1);
        dueGap(Checks.with(0, 1, 1, 3, 2, 1, 9, 2, 1), 2, 3, 1);
        dueGap(Checks.with(0, -99, 2, 1, 99, 2, 40, -99, 2), 198, 1, 1);
    }

    private void withoutPoints() {
        ShapeFits x = Checks.with(4, 4, 1);
        x.remove(0);
        for (int kind = 4; kind <= 5; kind++) {
            checks.sentence(12, "If there is no group with a certain number, INVALID_ARGUMENT");
            checks.due("fit(" + kind + ", 0, 0)", x.fit(kind, 0, 0), INVALID);
            dueKinks(x, kind);
        }
        checks.sentence(20, "NOT_POSSIBLE if there are no points");
        checks.due("gap(0)", x.gap(0), NOT_POSSIBLE);
        checks.due("gap(1)", x.gap(1), NOT_POSSIBLE);
        checks.due("gap(2)", x.gap(2), NOT_POSSIBLE);
        checks.sentence(20, "INVALID_ARGUMENT is returned rather than NOT_POSSIBLE");
        checks.due("gap(-1)", x.gap(-1), INVALID);
        checks.due("gap(3)", x.gap(3), INVALID);
    }

    private void wrongArguments() {
        ShapeFits x = Checks.values(9, 0, 9);
        checks.sentence(18, "kind: 4 or 5");
        checks.due("kinks(3)", x.kinks(3), INVALID);
        checks.due("kinks(6)", x.kinks(6), INVALID);
        checks.due("kinks(0)", x.kinks(0), INVALID);
        checks.sentence(19, "INVALID_ARGUMENT if kind is out of range or index is negative");
        checks.due("kinkAt(3, 0)", x.kinkAt(3, 0), INVALID);
        checks.due("kinkAt(6, 0)", x.kinkAt(6, 0), INVALID);
        checks.due("kinkAt(4, -1)", x.kinkAt(4, -1), INVALID);
        checks.due("kinkAt(5, -1)", x.kinkAt(5, -1), INVALID);
        checks.due("kinkAt(6, 9)", x.kinkAt(6, 9), INVALID);
        checks.sentence(20, "what: 0, 1 or 2");
        checks.due("gap(-1)", x.gap(-1), INVALID);
        checks.due("gap(3)", x.gap(3), INVALID);
    }
}
