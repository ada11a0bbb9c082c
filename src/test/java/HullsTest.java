/** Promises 12 and 18 to 20: minorant and majorant, their kinks and their gap. */
public final class HullsTest {
    private static final int INVALID = -1000001;
    private static final int NOT_POSSIBLE = -1000002;
    private static final int NOT_FOUND = -1000004;

    private static final Checks CHECKS = new Checks("HullsTest");

    public static void main(String[] args) {
        unevenPositions();
        straightLineHasNoKinks();
        weightedMeans();
        manyKinks();
        firstQuestions();
        equalGaps();
        fewGroups();
        wrongArguments();
        CHECKS.finish();
    }

    private static void due(int promise, String call, long got, long want) {
        CHECKS.due(promise, call, got, want);
    }

    private static void dueFit(ShapeFits x, int kind, int... fractions) {
        for (int group = 0; 2 * group < fractions.length; group++) {
            CHECKS.dueFraction(12, "fit(" + kind + ", " + group + ")", Checks.fit(x, kind, group),
                    fractions[2 * group], fractions[2 * group + 1]);
        }
    }

    /** Checks the number of kinks, each kink, and that no other follows. */
    private static void dueKinks(ShapeFits x, int kind, int... groups) {
        due(18, "kinks(" + kind + ")", x.kinks(kind), groups.length);
        for (int index = 0; index < groups.length; index++) {
            due(19, "kinkAt(" + kind + ", " + index + ")", x.kinkAt(kind, index), groups[index]);
        }
        due(19, "kinkAt behind the last one", x.kinkAt(kind, groups.length), NOT_FOUND);
    }

    private static void dueGap(ShapeFits x, int numerator, int denominator, int group) {
        CHECKS.dueFraction(20, "gap", Checks.gap(x), numerator, denominator);
        due(20, "gap(2)", x.gap(2), group);
    }

    /** The means 0, 8, 1, 10 at 0, 2, 5, 40: the minorant goes by the third, the majorant by the second. */
    private static void unevenPositions() {
        ShapeFits x = Checks.with(0, 0, 1, 2, 8, 1, 5, 1, 2, 40, 10, 1);
        dueFit(x, 4, 0, 1, 2, 5, 1, 1, 10, 1);
        dueFit(x, 5, 0, 1, 8, 1, 155, 19, 10, 1);
        dueKinks(x, 4, 2);
        dueKinks(x, 5, 1);
        dueGap(x, 38, 5, 1);
        x.mirror(1);
        dueFit(x, 4, 0, 1, -8, 1, -155, 19, -10, 1);
        dueKinks(x, 4, 1);
        dueKinks(x, 5, 2);
    }

    private static void straightLineHasNoKinks() {
        ShapeFits x = Checks.with(0, 0, 1, 1, 2, 1, 5, 10, 2, 9, 18, 1);
        dueKinks(x, 4);
        dueKinks(x, 5);
        dueGap(x, 0, 1, 0);
        dueFit(x, 4, 0, 1, 2, 1, 10, 1, 18, 1);
        x.add(7, 14, 1);
        dueKinks(x, 4);
        x.setPoint(4, 13, 1);
        dueKinks(x, 4, 3);
        dueKinks(x, 5);
        dueGap(x, 1, 1, 3);
    }

    private static void weightedMeans() {
        ShapeFits x = Checks.with(10, 4, 2, 10, 1, 1, 20, 0, 1, 40, -1, 2, 40, 0, 1);
        dueFit(x, 4, 3, 1, 0, 1, -2, 3);
        dueFit(x, 5, 3, 1, 16, 9, -2, 3);
        dueGap(x, 16, 9, 1);
    }

    private static void manyKinks() {
        ShapeFits x = new ShapeFits();
        for (int i = -5; i <= 6; i++) {
            x.add(i + 5, i * i, 1);
        }
        dueKinks(x, 4, 1, 2, 3, 4, 5, 6, 7, 8, 9, 10);
        dueKinks(x, 5);
        dueGap(x, 30, 1, 5);
        x.mirror(1);
        dueKinks(x, 4);
        dueKinks(x, 5, 1, 2, 3, 4, 5, 6, 7, 8, 9, 10);
        dueGap(x, 30, 1, 5);
    }

    /** Each question is asked first of a new object, as it must not lean on another one. */
    private static void firstQuestions() {
        due(18, "kinks(4)", Checks.values(2, 0, 2).kinks(4), 1);
        due(19, "kinkAt(4, 0)", Checks.values(2, 0, 2).kinkAt(4, 0), 1);
        due(19, "kinkAt(5, 0)", Checks.values(0, 2, 0).kinkAt(5, 0), 1);
        due(20, "gap(0)", Checks.values(0, 2, 0).gap(0), 2);
        ShapeFits x = Checks.values(2, 0, 2);
        x.kinks(4);
        x.setPoint(1, 3, 1);
        due(19, "kinkAt(4, 0) after a change", x.kinkAt(4, 0), NOT_FOUND);
    }

    private static void equalGaps() {
        dueGap(Checks.values(0, 3, 3, 0), 3, 1, 1);
        dueGap(Checks.values(0, -3, 3, 0), 9, 2, 1);
        dueGap(Checks.values(0, 1, 3, 0), 3, 1, 2);
    }

    private static void fewGroups() {
        ShapeFits x = Checks.with(3, 5, 1);
        dueFit(x, 4, 5, 1);
        dueFit(x, 5, 5, 1);
        dueKinks(x, 4);
        dueKinks(x, 5);
        dueGap(x, 0, 1, 0);
        x.add(8, -2, 1);
        x.add(8, 1, 1);
        dueFit(x, 4, 5, 1, -1, 2);
        dueFit(x, 5, 5, 1, -1, 2);
        dueKinks(x, 4);
        dueGap(x, 0, 1, 0);
    }

    private static void wrongArguments() {
        ShapeFits x = new ShapeFits();
        due(18, "kinks(4)", x.kinks(4), 0);
        due(18, "kinks(5)", x.kinks(5), 0);
        due(18, "kinks(3)", x.kinks(3), INVALID);
        due(18, "kinks(6)", x.kinks(6), INVALID);
        due(19, "kinkAt(4, 0)", x.kinkAt(4, 0), NOT_FOUND);
        due(19, "kinkAt(4, most)", x.kinkAt(4, Integer.MAX_VALUE), NOT_FOUND);
        due(19, "kinkAt(4, -1)", x.kinkAt(4, -1), INVALID);
        due(19, "kinkAt(3, 0)", x.kinkAt(3, 0), INVALID);
        due(19, "kinkAt(6, 0)", x.kinkAt(6, 0), INVALID);
        for (int what = 0; what < 3; what++) {
            due(20, "gap(" + what + ")", x.gap(what), NOT_POSSIBLE);
        }
        due(20, "gap(3)", x.gap(3), INVALID);
        due(20, "gap(-1)", x.gap(-1), INVALID);
    }
}
