/**
 * Promises 6, 12 to 24, 27 and 28: all points with small values at up to five positions, where
 * equal numbers, errors and slopes abound, and all short texts, compared with the Model.
 */
public final class SmallCasesTest {
    private static final int MOST_GROUPS = 5;
    private static final int VALUES = 3;
    private static final int[] POSITIONS = {0, 1, 2, 4, 7};
    private static final int[][] PENALTIES = {{0, 1}, {1, 6}, {1, 4}, {1, 3}, {1, 2}, {2, 3},
        {1, 1}, {3, 2}, {2, 1}};
    private static final String SIGNS = "014:-*;x";

    private static final Checks CHECKS = new Checks("SmallCasesTest");

    private final ShapeFits real = new ShapeFits();
    private final Model model = new Model();
    private final String name;

    private SmallCasesTest(String name) {
        this.name = name;
    }

    public static void main(String[] args) {
        for (int groups = 1; groups <= MOST_GROUPS; groups++) {
            int cases = (int) Math.pow(VALUES, groups);
            for (int number = 0; number < cases; number++) {
                for (int weights = 0; weights < 3; weights++) {
                    new SmallCasesTest(groups + " groups, case " + number).compareFits(groups,
                            number, weights);
                }
            }
        }
        compareTexts("", 4);
        compareTexts("1:", 5);
        compareTexts("1:1", 4);
        compareTexts("1:1;".repeat(11), 2);
        compareTexts("1:1;".repeat(12), 1);
        CHECKS.finish();
    }

    /** The weights are all 1, or 1 and 2 in turns, beginning with the one or the other. */
    private void compareFits(int groups, int number, int weights) {
        int rest = number;
        for (int group = 0; group < groups; group++) {
            int weight = weights == 0 ? 1 : 1 + (group + weights) % 2;
            compare(Calls.ADD, POSITIONS[group], rest % VALUES, weight);
            rest /= VALUES;
        }
        for (int kind = 0; kind < 6; kind++) {
            compareKind(kind, groups);
        }
        for (int what = 0; what < 3; what++) {
            compare(Calls.GAP, what, 0, 0);
        }
        compareLevels(groups);
    }

    private void compareKind(int kind, int groups) {
        compare(Calls.ERROR, kind, 0, 0);
        compare(Calls.ERROR, kind, 1, 0);
        compare(Calls.TURN, kind, 0, 0);
        compare(Calls.BLOCKS, kind, 0, 0);
        compare(Calls.KINKS, kind, 0, 0);
        for (int group = 0; group < groups; group++) {
            for (int what = 0; what < 2; what++) {
                compare(Calls.FIT, kind, group, what);
                compare(Calls.TURN_ERROR, kind, group, what);
            }
            for (int what = 0; what < 4; what++) {
                compare(Calls.BLOCK_INFO, kind, group, what);
            }
            compare(Calls.KINK_AT, kind, group, 0);
        }
    }

    private void compareLevels(int groups) {
        for (int k = 1; k <= groups + 1; k++) {
            for (int what = 0; what < 2; what++) {
                compare(Calls.LEVEL_ERROR, k, what, 0);
                compare(Calls.PENALTY_FOR, k, what, 0);
            }
            for (int level = 0; level < k; level++) {
                compare(Calls.LEVEL_BEGIN, k, level, 0);
            }
        }
        for (int[] penalty : PENALTIES) {
            compare(Calls.LEVELS, penalty[0], penalty[1], 0);
        }
    }

    /** All texts that go on behind a beginning with at most so many signs. */
    private static void compareTexts(String text, int more) {
        new SmallCasesTest(text).compareText();
        for (int sign = 0; more > 0 && sign < SIGNS.length(); sign++) {
            compareTexts(text + SIGNS.charAt(sign), more - 1);
        }
    }

    private void compareText() {
        for (int i = 0; i < name.length(); i++) {
            compare(Calls.TYPE, name.charAt(i), 0, 0);
        }
        for (int method : new int[] {Calls.FAULT, Calls.LAY}) {
            compare(method, 0, 0, 0);
            for (int index = 0; index < 4; index++) {
                compare(Calls.REASON, index, 0, 0);
            }
        }
        compare(Calls.POINTS, 0, 0, 0);
        for (int what = 0; what < 3; what++) {
            compare(Calls.POINT_INFO, 0, what, 0);
        }
        compare(Calls.CLEAR_TEXT, 0, 0, 0);
    }

    private void compare(int method, int a, int b, int c) {
        CHECKS.due(Calls.promise(method), name + ": " + Calls.text(method, a, b, c),
                Calls.answer(real, method, a, b, c), model.answer(method, a, b, c));
    }
}
