/**
 * Edges of questions before and behind a change, promises 10 to 24: an answer is of the points as
 * they are now, whatever was asked of the points before.
 */
final class ChangeEdges extends Edges {
    private static final String[] CHANGES = {"add", "remove", "setPoint", "mirror(0)", "mirror(1)",
        "lay", "lay of no text", "undo"};

    ChangeEdges(Checks checks) {
        super(checks);
    }

    @Override
    void check() {
        for (int change = 0; change < CHANGES.length; change++) {
            ShapeFits x = farApart();
            ask(x, null, "", 2);
            make(x, change);
            ask(x, copy(x), " after " + CHANGES[change], 4);
        }
    }

    /** Five points in four groups with great errors; the text and the state before have small ones. */
    private static ShapeFits farApart() {
        ShapeFits x = Checks.with(5, 1, 1, 5, 2, 1, 0, 2, 1, 20, 1, 1, 40, 0, 1);
        Checks.write(x, "2:1;3:0;8:2*2;8:1;9:1;");
        x.lay();
        Checks.write(x, "5:-80*2;5:60;0:90*2;20:99*2;40:-99*2;");
        x.lay();
        Checks.write(x, "2:1;3:0;8:2*2;8:1;9:1;");
        return x;
    }

    private static void make(ShapeFits x, int change) {
        switch (change) {
            case 0:
                x.add(10, 0, 1);
                break;
            case 1:
                x.remove(3);
                break;
            case 2:
                x.setPoint(2, 1, 1);
                break;
            case 3:
                x.mirror(0);
                break;
            case 4:
                x.mirror(1);
                break;
            case 5:
                x.lay();
                break;
            case 6:
                x.clearText();
                x.lay();
                break;
            default:
                x.undo();
                break;
        }
    }

    /** A new object with the same points. */
    private static ShapeFits copy(ShapeFits x) {
        ShapeFits same = new ShapeFits();
        for (int point = 0; point < x.points(); point++) {
            same.add(x.pointInfo(point, 0), x.pointInfo(point, 1), x.pointInfo(point, 2));
        }
        return same;
    }

    /** Asks many questions; the answers are compared with another object's if there is one. */
    private void ask(ShapeFits x, ShapeFits same, String when, int most) {
        int groups = x.groups();
        for (int method = Calls.GROUPS; method <= Calls.PENALTY_FOR; method++) {
            int[] firsts = range(method, 0, groups, 0, 6);
            for (int a = firsts[0]; a <= firsts[1]; a++) {
                int[] seconds = range(method, 1, groups, a, most);
                for (int b = seconds[0]; b <= seconds[1]; b++) {
                    int[] thirds = range(method, 2, groups, a, most);
                    for (int c = thirds[0]; c <= thirds[1]; c++) {
                        compare(x, same, when, method, a, b, c);
                    }
                }
            }
        }
    }

    /** The range of an argument, cut off behind so many; one value only if there is no argument. */
    private static int[] range(int method, int argument, int groups, int first, int most) {
        if (argument >= Calls.arguments(method)) {
            return new int[] {0, 0};
        }
        int[] range = Calls.range(method, argument, 0, groups, first);
        return new int[] {range[0], Math.min(range[1], range[0] + most - 1)};
    }

    private void compare(ShapeFits x, ShapeFits same, String when, int method, int a, int b,
            int c) {
        long got = Calls.answer(x, method, a, b, c);
        if (same != null) {
            checks.sentence(Calls.promise(method), "Returns .. (of the points as they are now)");
            checks.due(Calls.text(method, a, b, c) + when, got,
                    Calls.answer(same, method, a, b, c));
        }
    }
}
