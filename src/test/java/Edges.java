/** What the checks of edges share: the errors, and the check of a fit. */
abstract class Edges {
    static final int INVALID = -1000001;
    static final int NOT_POSSIBLE = -1000002;
    static final int LIMIT = -1000003;
    static final int NOT_FOUND = -1000004;

    final Checks checks;

    Edges(Checks checks) {
        this.checks = checks;
    }

    abstract void check();

    /** Checks the numbers of a fit, given as numerator and denominator for each group. */
    void dueFit(ShapeFits x, int kind, int... fractions) {
        for (int group = 0; 2 * group < fractions.length; group++) {
            checks.dueFraction("fit(" + kind + ", " + group + ")", Checks.fit(x, kind, group),
                    fractions[2 * group], fractions[2 * group + 1]);
        }
    }
}
