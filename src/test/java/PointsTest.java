/** Promises 1 to 11: points, their changes and the history, and the groups. */
public final class PointsTest {
    private static final int INVALID = -1000001;
    private static final int NOT_POSSIBLE = -1000002;
    private static final int LIMIT = -1000003;
    private static final int NOT_FOUND = -1000004;

    private static final Checks CHECKS = new Checks("PointsTest");

    public static void main(String[] args) {
        newObject();
        adding();
        addingToTheLimit();
        removing();
        setting();
        mirroring();
        laying();
        layingReplacesAll();
        undoing();
        undoingEachChange();
        historyLimit();
        errorsAreNoChanges();
        pointInfo();
        groupInfo();
        CHECKS.finish();
    }

    private static void due(int promise, String call, long got, long want) {
        CHECKS.due(promise, call, got, want);
    }

    private static void duePoint(int promise, ShapeFits x, int point, int[] numbers) {
        for (int what = 0; what < numbers.length; what++) {
            due(promise, "pointInfo(" + point + ", " + what + ")", x.pointInfo(point, what),
                    numbers[what]);
        }
    }

    private static void newObject() {
        ShapeFits x = new ShapeFits();
        due(1, "points()", x.points(), 0);
        due(1, "groups()", x.groups(), 0);
        due(1, "undo()", x.undo(), NOT_POSSIBLE);
        due(1, "clearText()", x.clearText(), 0);
        due(1, "reason(0)", x.reason(0), NOT_FOUND);
        due(1, "fault()", x.fault(), NOT_FOUND);
        ShapeFits y = Checks.values(1, 2);
        due(1, "points() of another object", x.points(), 0);
        due(1, "points() of the second object", y.points(), 2);
    }

    private static void adding() {
        ShapeFits x = new ShapeFits();
        due(2, "add(0, -99, 1)", x.add(0, -99, 1), 0);
        due(2, "add(40, 99, 2)", x.add(40, 99, 2), 1);
        due(2, "add(0, -99, 1) again", x.add(0, -99, 1), 2);
        duePoint(2, x, 0, new int[] {0, -99, 1, 0});
        duePoint(2, x, 1, new int[] {40, 99, 2, 1});
        int[][] wrong = {{-1, 0, 1}, {41, 0, 1}, {0, -100, 1}, {0, 100, 1}, {0, 0, 0}, {0, 0, 3},
            {Integer.MIN_VALUE, 0, 1}, {0, Integer.MIN_VALUE, 1}, {0, Integer.MAX_VALUE, 1},
            {0, 0, Integer.MAX_VALUE}, {0, 0, -1}};
        for (int[] w : wrong) {
            due(2, "add(" + w[0] + ", " + w[1] + ", " + w[2] + ")", x.add(w[0], w[1], w[2]),
                    INVALID);
        }
        due(2, "points()", x.points(), 3);
    }

    private static void addingToTheLimit() {
        ShapeFits x = new ShapeFits();
        for (int i = 0; i < 12; i++) {
            due(2, "add " + i, x.add(7, i, 1), i);
        }
        due(2, "the 13th add", x.add(7, 0, 1), LIMIT);
        due(2, "a wrong 13th add", x.add(7, 0, 3), INVALID);
        due(2, "points()", x.points(), 12);
        due(2, "remove(3)", x.remove(3), 11);
        due(2, "the 12th add again", x.add(8, 50, 2), 11);
        duePoint(2, x, 11, new int[] {8, 50, 2, 1});
    }

    private static void removing() {
        ShapeFits x = Checks.with(5, 10, 1, 3, 20, 2, 9, 30, 1);
        due(3, "remove(-1)", x.remove(-1), INVALID);
        due(3, "remove(3)", x.remove(3), INVALID);
        due(3, "remove(0)", x.remove(0), 2);
        duePoint(3, x, 0, new int[] {3, 20, 2, 0});
        duePoint(3, x, 1, new int[] {9, 30, 1, 1});
        due(3, "remove(2)", x.remove(2), INVALID);
        due(3, "remove(1)", x.remove(1), 1);
        due(3, "groups()", x.groups(), 1);
        due(3, "remove(0)", x.remove(0), 0);
        due(3, "remove(0) of none", x.remove(0), INVALID);
        due(3, "groups()", x.groups(), 0);
    }

    private static void setting() {
        ShapeFits x = Checks.with(5, 10, 1, 3, -20, 2);
        due(4, "setPoint(0, 99, 2)", x.setPoint(0, 99, 2), 101);
        due(4, "setPoint(1, -99, 1)", x.setPoint(1, -99, 1), -198);
        duePoint(4, x, 0, new int[] {5, 99, 2, 1});
        duePoint(4, x, 1, new int[] {3, -99, 1, 0});
        due(4, "groupInfo(1, 2)", x.groupInfo(1, 2), 198);
        int[][] wrong = {{-1, 0, 1}, {2, 0, 1}, {0, -100, 1}, {0, 100, 1}, {0, 0, 0}, {0, 0, 3}};
        for (int[] w : wrong) {
            due(4, "setPoint(" + w[0] + ", " + w[1] + ", " + w[2] + ")",
                    x.setPoint(w[0], w[1], w[2]), INVALID);
        }
        duePoint(4, x, 0, new int[] {5, 99, 2, 1});
        due(4, "setPoint of none", new ShapeFits().setPoint(0, 0, 1), INVALID);
    }

    private static void mirroring() {
        ShapeFits x = Checks.with(0, 10, 1, 40, -20, 2, 3, 0, 1);
        due(5, "mirror(0)", x.mirror(0), 3);
        duePoint(5, x, 0, new int[] {40, 10, 1, 2});
        duePoint(5, x, 1, new int[] {0, -20, 2, 0});
        duePoint(5, x, 2, new int[] {37, 0, 1, 1});
        due(5, "mirror(1)", x.mirror(1), 3);
        duePoint(5, x, 0, new int[] {40, -10, 1, 2});
        duePoint(5, x, 1, new int[] {0, 20, 2, 0});
        duePoint(5, x, 2, new int[] {37, 0, 1, 1});
        due(5, "mirror(2)", x.mirror(2), INVALID);
        due(5, "mirror(-1)", x.mirror(-1), INVALID);
        duePoint(5, x, 1, new int[] {0, 20, 2, 0});
        due(5, "mirror(0) of none", new ShapeFits().mirror(0), 0);
        due(5, "mirror(1) of none", new ShapeFits().mirror(1), 0);
        due(5, "mirror(2) of none", new ShapeFits().mirror(2), INVALID);
    }

    private static void laying() {
        ShapeFits x = new ShapeFits();
        Checks.write(x, "40:-99*2;05:07;00:-0*1;5:1;");
        due(6, "lay()", x.lay(), 4);
        duePoint(6, x, 0, new int[] {40, -99, 2, 2});
        duePoint(6, x, 1, new int[] {5, 7, 1, 1});
        duePoint(6, x, 2, new int[] {0, 0, 1, 0});
        duePoint(6, x, 3, new int[] {5, 1, 1, 1});
        due(6, "lay() again", x.lay(), 4);
        due(6, "clearText(): the text stays", x.clearText(), 27);
        due(6, "points()", x.points(), 4);
        due(6, "lay() of the empty text", x.lay(), 0);
        due(6, "points()", x.points(), 0);
        due(6, "groups()", x.groups(), 0);
    }

    private static void layingReplacesAll() {
        ShapeFits x = Checks.with(1, 1, 1, 2, 2, 2);
        Checks.write(x, "3:3;4:4");
        due(6, "lay() with a fault", x.lay(), NOT_POSSIBLE);
        due(6, "points()", x.points(), 2);
        duePoint(6, x, 1, new int[] {2, 2, 2, 1});
        x.type(';');
        x.add(9, 9, 1);
        due(6, "lay()", x.lay(), 2);
        duePoint(6, x, 0, new int[] {3, 3, 1, 0});
        duePoint(6, x, 1, new int[] {4, 4, 1, 1});
        due(6, "groups()", x.groups(), 2);
    }

    private static void undoing() {
        ShapeFits x = Checks.with(4, 1, 1, 2, 5, 2);
        x.remove(0);
        due(7, "undo() of remove", x.undo(), 2);
        duePoint(7, x, 0, new int[] {4, 1, 1, 1});
        duePoint(7, x, 1, new int[] {2, 5, 2, 0});
        due(7, "groups()", x.groups(), 2);
        due(7, "undo()", x.undo(), 1);
        due(7, "points()", x.points(), 1);
        due(7, "undo()", x.undo(), 0);
        due(7, "points()", x.points(), 0);
        due(7, "undo() of none", x.undo(), NOT_POSSIBLE);
        due(7, "undo() is no change", x.undo(), NOT_POSSIBLE);
    }

    private static void undoingEachChange() {
        ShapeFits x = new ShapeFits();
        Checks.write(x, "9:9;");
        x.add(4, 1, 2);
        x.setPoint(0, 7, 1);
        x.mirror(0);
        x.mirror(1);
        x.lay();
        duePoint(7, x, 0, new int[] {9, 9, 1, 0});
        due(7, "undo() of lay", x.undo(), 4);
        duePoint(7, x, 0, new int[] {36, -7, 1, 0});
        due(7, "undo() of mirror(1)", x.undo(), 3);
        duePoint(7, x, 0, new int[] {36, 7, 1, 0});
        due(7, "undo() of mirror(0)", x.undo(), 2);
        duePoint(7, x, 0, new int[] {4, 7, 1, 0});
        due(7, "undo() of setPoint", x.undo(), 1);
        duePoint(7, x, 0, new int[] {4, 1, 2, 0});
        due(7, "groupInfo(0, 2)", x.groupInfo(0, 2), 2);
        due(7, "undo() of add", x.undo(), 0);
        due(7, "points()", x.points(), 0);
        due(7, "clearText(): undo leaves the text", x.clearText(), 4);
    }

    private static void historyLimit() {
        ShapeFits x = new ShapeFits();
        for (int i = 0; i < 9; i++) {
            x.add(i, i, 1);
        }
        for (int left = 5; left >= 0; left--) {
            due(7, "undo()", x.undo(), left);
            due(7, "points()", x.points(), left + 3);
        }
        due(7, "undo() of the 7th", x.undo(), NOT_POSSIBLE);
        due(7, "points()", x.points(), 3);
        duePoint(7, x, 2, new int[] {2, 2, 1, 2});
        x.setPoint(0, 0, 1);
        due(7, "undo() of a change that changed nothing", x.undo(), 0);
        x.mirror(1);
        x.undo();
        x.mirror(0);
        due(7, "undo() after an undo", x.undo(), 0);
    }

    private static void errorsAreNoChanges() {
        ShapeFits x = Checks.with(4, 1, 1);
        x.undo();
        x.add(41, 0, 1);
        x.remove(0);
        x.setPoint(0, 0, 1);
        x.mirror(2);
        x.type('x');
        x.lay();
        due(7, "undo() after errors only", x.undo(), NOT_POSSIBLE);
        for (int i = 0; i < 12; i++) {
            x.add(i, i, 1);
        }
        x.add(0, 0, 1);
        due(7, "undo() after the limit", x.undo(), 5);
        due(7, "points()", x.points(), 11);
    }

    private static void pointInfo() {
        ShapeFits x = Checks.with(7, -5, 2, 3, 8, 1, 7, 1, 1);
        due(8, "points()", x.points(), 3);
        duePoint(9, x, 0, new int[] {7, -5, 2, 1});
        duePoint(9, x, 1, new int[] {3, 8, 1, 0});
        duePoint(9, x, 2, new int[] {7, 1, 1, 1});
        due(9, "pointInfo(-1, 0)", x.pointInfo(-1, 0), INVALID);
        due(9, "pointInfo(3, 0)", x.pointInfo(3, 0), INVALID);
        due(9, "pointInfo(0, -1)", x.pointInfo(0, -1), INVALID);
        due(9, "pointInfo(0, 4)", x.pointInfo(0, 4), INVALID);
        due(9, "pointInfo(0, 0) of none", new ShapeFits().pointInfo(0, 0), INVALID);
        x.remove(1);
        due(8, "points()", x.points(), 2);
        due(9, "pointInfo(0, 3)", x.pointInfo(0, 3), 0);
    }

    private static void groupInfo() {
        ShapeFits x = Checks.with(7, -5, 2, 3, 8, 1, 7, 1, 1, 40, 6, 2, 0, -9, 1);
        due(10, "groups()", x.groups(), 4);
        int[][] due = {{0, 1, -9, 1}, {3, 1, 8, 1}, {7, 3, -9, 2}, {40, 2, 12, 1}};
        for (int group = 0; group < 4; group++) {
            for (int what = 0; what < 4; what++) {
                due(11, "groupInfo(" + group + ", " + what + ")", x.groupInfo(group, what),
                        due[group][what]);
            }
        }
        due(11, "groupInfo(4, 0)", x.groupInfo(4, 0), INVALID);
        due(11, "groupInfo(-1, 0)", x.groupInfo(-1, 0), INVALID);
        due(11, "groupInfo(0, 4)", x.groupInfo(0, 4), INVALID);
        due(11, "groupInfo(0, -1)", x.groupInfo(0, -1), INVALID);
        x.remove(2);
        due(10, "groups()", x.groups(), 4);
        x.remove(0);
        due(10, "groups()", x.groups(), 3);
        due(11, "groupInfo(2, 0)", x.groupInfo(2, 0), 40);
        due(11, "groupInfo(3, 0)", x.groupInfo(3, 0), INVALID);
    }
}
