/** Edges of points and groups: promises 1 to 5 and 8 to 11. */
final class PointEdges extends Edges {
    PointEdges(Checks checks) {
        super(checks);
    }

    @Override
    void check() {
        withoutPoints();
        objectsShareNothing();
        leastAndGreatestArguments();
        argumentsWhoseLowBitsAreGood();
        twelvePoints();
        invalidRatherThanLimit();
        removingEach();
        removingTheLast();
        previousValueAndWeight();
        settingKeepsTheRest();
        mirroringPositions();
        mirroringValues();
        countingPoints();
        numbersOfGroups();
        groupsComeAndGo();
        leastGroup();
        greatestGroup();
    }

    private static ShapeFits twelve() {
        ShapeFits x = new ShapeFits();
        for (int i = 0; i < 12; i++) {
            x.add(2 * i, i - 6, 1 + i % 2);
        }
        return x;
    }

    private void duePoint(ShapeFits x, int point, int position, int value, int weight) {
        checks.due("pointInfo(" + point + ", 0)", x.pointInfo(point, 0), position);
        checks.due("pointInfo(" + point + ", 1)", x.pointInfo(point, 1), value);
        checks.due("pointInfo(" + point + ", 2)", x.pointInfo(point, 2), weight);
    }

    private void dueGroup(ShapeFits x, int group, int... due) {
        for (int what = 0; what < due.length; what++) {
            checks.due("groupInfo(" + group + ", " + what + ")", x.groupInfo(group, what),
                    due[what]);
        }
    }

    private void withoutPoints() {
        checks.sentence(1, "Creates an object without points");
        ShapeFits x = new ShapeFits();
        checks.due("points()", x.points(), 0);
        checks.due("groups()", x.groups(), 0);
        checks.due("undo(): no history", x.undo(), NOT_POSSIBLE);
        checks.due("pointInfo(0, 0)", x.pointInfo(0, 0), INVALID);
        checks.due("groupInfo(0, 0)", x.groupInfo(0, 0), INVALID);
        checks.due("fit(0, 0, 0)", x.fit(0, 0, 0), INVALID);
        checks.due("turn(2)", x.turn(2), NOT_POSSIBLE);
        checks.due("gap(0)", x.gap(0), NOT_POSSIBLE);
        checks.due("levelError(1, 0)", x.levelError(1, 0), NOT_FOUND);
        checks.due("reason(0): no chain", x.reason(0), NOT_FOUND);
        checks.due("clearText(): no text", x.clearText(), 0);
    }

    private void objectsShareNothing() {
        checks.sentence(1, "Creates an object without points");
        ShapeFits full = twelve();
        full.type('x');
        full.fault();
        ShapeFits x = new ShapeFits();
        checks.due("points() beside a full object", x.points(), 0);
        checks.due("undo() beside a full object", x.undo(), NOT_POSSIBLE);
        checks.due("reason(0) beside a full object", x.reason(0), NOT_FOUND);
        checks.due("fault() beside a full object", x.fault(), NOT_FOUND);
        x.add(1, 1, 1);
        checks.due("points() of the full object", full.points(), 12);
        checks.due("reason(0) of the full object", full.reason(0), 10);
    }

    private void leastAndGreatestArguments() {
        checks.sentence(2, "position: 0 to 40; value: -99 to 99; weight: 1 or 2");
        ShapeFits x = new ShapeFits();
        checks.due("add(-1, 0, 1)", x.add(-1, 0, 1), INVALID);
        checks.due("add(0, 0, 1)", x.add(0, 0, 1), 0);
        checks.due("add(40, 0, 1)", x.add(40, 0, 1), 1);
        checks.due("add(41, 0, 1)", x.add(41, 0, 1), INVALID);
        checks.due("add(5, -100, 1)", x.add(5, -100, 1), INVALID);
        checks.due("add(5, -99, 1)", x.add(5, -99, 1), 2);
        checks.due("add(5, 99, 1)", x.add(5, 99, 1), 3);
        checks.due("add(5, 100, 1)", x.add(5, 100, 1), INVALID);
        checks.due("add(5, 0, 0)", x.add(5, 0, 0), INVALID);
        checks.due("add(5, 0, 2)", x.add(5, 0, 2), 4);
        checks.due("add(5, 0, 3)", x.add(5, 0, 3), INVALID);
        duePoint(x, 0, 0, 0, 1);
        duePoint(x, 1, 40, 0, 1);
        duePoint(x, 2, 5, -99, 1);
        duePoint(x, 3, 5, 99, 1);
        duePoint(x, 4, 5, 0, 2);
        checks.due("points()", x.points(), 5);
    }

    private void argumentsWhoseLowBitsAreGood() {
        checks.sentence(2, "INVALID_ARGUMENT if an argument is out of range");
        ShapeFits x = new ShapeFits();
        for (int bits : new int[] {1 << 8, 1 << 16, 1 << 24, 1 << 31, -(1 << 8), -(1 << 16)}) {
            checks.due("add(5 + " + bits + ", 5, 1)", x.add(5 + bits, 5, 1), INVALID);
            checks.due("add(5, 5 + " + bits + ", 1)", x.add(5, 5 + bits, 1), INVALID);
            checks.due("add(5, 5, 1 + " + bits + ")", x.add(5, 5, 1 + bits), INVALID);
        }
        checks.due("points()", x.points(), 0);
    }

    private void twelvePoints() {
        checks.sentence(2, "LIMIT_REACHED if there are 12 points");
        ShapeFits x = new ShapeFits();
        for (int i = 0; i < 12; i++) {
            checks.due("add " + i + " returns the number of the point", x.add(40, i, 2), i);
        }
        checks.due("the 13th add at the same position", x.add(40, 0, 2), LIMIT);
        checks.due("the 13th add at another position", x.add(0, 0, 2), LIMIT);
        checks.due("points()", x.points(), 12);
        checks.due("groups()", x.groups(), 1);
        x.undo();
        checks.due("add after undo", x.add(1, 0, 1), 11);
        x.remove(0);
        checks.due("add after remove", x.add(2, 0, 1), 11);
        checks.due("add to 12 again", x.add(3, 0, 1), LIMIT);
    }

    private void invalidRatherThanLimit() {
        checks.sentence(2, "INVALID_ARGUMENT is returned rather than LIMIT_REACHED");
        ShapeFits x = twelve();
        checks.due("add(41, 0, 1)", x.add(41, 0, 1), INVALID);
        checks.due("add(0, 100, 1)", x.add(0, 100, 1), INVALID);
        checks.due("add(0, 0, 0)", x.add(0, 0, 0), INVALID);
        checks.due("add(0, 0, 1)", x.add(0, 0, 1), LIMIT);
    }

    private void removingEach() {
        checks.sentence(3, "if one is removed, the numbers of the later ones decrease by 1");
        for (int removed = 0; removed < 12; removed++) {
            ShapeFits x = twelve();
            checks.due("remove(" + removed + ")", x.remove(removed), 11);
            for (int point = 0; point < 11; point++) {
                int before = point < removed ? point : point + 1;
                duePoint(x, point, 2 * before, before - 6, 1 + before % 2);
            }
            checks.due("pointInfo(11, 0)", x.pointInfo(11, 0), INVALID);
            checks.due("remove(11)", x.remove(11), INVALID);
            checks.due("groups()", x.groups(), 11);
        }
    }

    private void removingTheLast() {
        checks.sentence(3, "Returns the number of points that remain; INVALID_ARGUMENT");
        ShapeFits x = twelve();
        checks.due("remove(-1)", x.remove(-1), INVALID);
        checks.due("remove(12)", x.remove(12), INVALID);
        for (int left = 11; left >= 0; left--) {
            checks.due("remove(0)", x.remove(0), left);
        }
        checks.due("remove(0) of none", x.remove(0), INVALID);
        checks.due("points()", x.points(), 0);
        checks.due("add after the last remove", x.add(9, 9, 1), 0);
    }

    private void previousValueAndWeight() {
        checks.sentence(4, "Returns 10 times the previous value plus the previous weight");
        ShapeFits x = Checks.with(5, 99, 2);
        checks.due("after 99, 2", x.setPoint(0, -99, 2), 992);
        checks.due("after -99, 2", x.setPoint(0, -99, 1), -988);
        checks.due("after -99, 1", x.setPoint(0, 0, 1), -989);
        checks.due("after 0, 1", x.setPoint(0, 0, 2), 1);
        checks.due("after 0, 2", x.setPoint(0, 0, 2), 2);
        checks.due("refused", x.setPoint(0, 100, 1), INVALID);
        checks.due("refused", x.setPoint(0, 1, 3), INVALID);
        checks.due("refused", x.setPoint(1, 1, 1), INVALID);
        checks.due("after refusals", x.setPoint(0, 1, 1), 2);
    }

    private void settingKeepsTheRest() {
        checks.sentence(4, "Gives a point another value and weight");
        ShapeFits x = twelve();
        x.setPoint(0, 99, 2);
        x.setPoint(11, -99, 1);
        duePoint(x, 0, 0, 99, 2);
        duePoint(x, 1, 2, -5, 2);
        duePoint(x, 10, 20, 4, 1);
        duePoint(x, 11, 22, -99, 1);
        checks.due("points()", x.points(), 12);
        checks.due("groupInfo(0, 2)", x.groupInfo(0, 2), 198);
        checks.due("groupInfo(11, 1)", x.groupInfo(11, 1), 1);
        checks.due("setPoint(12, 0, 1)", x.setPoint(12, 0, 1), INVALID);
        checks.due("setPoint(0, 0, 1) of none", new ShapeFits().setPoint(0, 0, 1), INVALID);
    }

    private void mirroringPositions() {
        checks.sentence(5, "0: each position p becomes 40 - p");
        ShapeFits x = Checks.with(0, 1, 1, 40, 2, 1, 20, -3, 2, 0, 4, 1);
        checks.due("mirror(0)", x.mirror(0), 4);
        duePoint(x, 0, 40, 1, 1);
        duePoint(x, 1, 0, 2, 1);
        duePoint(x, 2, 20, -3, 2);
        duePoint(x, 3, 40, 4, 1);
        dueGroup(x, 2, 40, 2, 5, 2);
        checks.due("mirror(0) of none", new ShapeFits().mirror(0), 0);
        checks.due("mirror(0) of 12", twelve().mirror(0), 12);
    }

    private void mirroringValues() {
        checks.sentence(5, "1: each value v becomes -v");
        ShapeFits x = Checks.with(0, 99, 2, 40, -99, 1, 7, 0, 1);
        checks.due("mirror(1)", x.mirror(1), 3);
        duePoint(x, 0, 0, -99, 2);
        duePoint(x, 1, 40, 99, 1);
        duePoint(x, 2, 7, 0, 1);
        checks.due("mirror(-1)", x.mirror(-1), INVALID);
        checks.due("mirror(2)", x.mirror(2), INVALID);
        duePoint(x, 0, 0, -99, 2);
        checks.due("mirror(1) of none", new ShapeFits().mirror(1), 0);
        checks.due("mirror(2) of none", new ShapeFits().mirror(2), INVALID);
    }

    private void countingPoints() {
        checks.sentence(8, "Returns the number of points");
        ShapeFits x = new ShapeFits();
        for (int i = 0; i < 12; i++) {
            checks.due("points()", x.points(), i);
            x.add(4, 4, 1);
        }
        checks.due("points()", x.points(), 12);
        x.add(4, 4, 1);
        checks.due("points() after a refused add", x.points(), 12);
        checks.sentence(9, "number of the point; what: 0 to 3");
        checks.due("pointInfo(11, 3)", x.pointInfo(11, 3), 0);
        checks.due("pointInfo(12, 3)", x.pointInfo(12, 3), INVALID);
        checks.due("pointInfo(-1, 3)", x.pointInfo(-1, 3), INVALID);
        checks.due("pointInfo(0, 4)", x.pointInfo(0, 4), INVALID);
        checks.due("pointInfo(0, -1)", x.pointInfo(0, -1), INVALID);
        checks.due("pointInfo(0, 0) of none", new ShapeFits().pointInfo(0, 0), INVALID);
    }

    private void numbersOfGroups() {
        checks.sentence(9, "Groups are numbered from 0 by ascending positions");
        ShapeFits x = new ShapeFits();
        int[] positions = {20, 40, 0, 39, 1, 20};
        for (int position : positions) {
            x.add(position, 1, 1);
        }
        int[] groups = {2, 4, 0, 3, 1, 2};
        for (int point = 0; point < groups.length; point++) {
            checks.due("pointInfo(" + point + ", 3)", x.pointInfo(point, 3), groups[point]);
        }
        checks.sentence(10, "Returns the number of groups");
        checks.due("groups()", x.groups(), 5);
        checks.due("groups() of 12", twelve().groups(), 12);
        checks.sentence(11, "Groups are numbered from 0 by ascending positions");
        int[] due = {0, 1, 20, 39, 40};
        for (int group = 0; group < due.length; group++) {
            checks.due("groupInfo(" + group + ", 0)", x.groupInfo(group, 0), due[group]);
        }
    }

    private void groupsComeAndGo() {
        checks.sentence(10, "All points with the same position form a group");
        ShapeFits x = Checks.with(8, 3, 1, 8, 4, 2);
        checks.due("groups()", x.groups(), 1);
        x.add(7, 1, 1);
        checks.due("groups()", x.groups(), 2);
        checks.due("group of the first point", x.pointInfo(0, 3), 1);
        x.remove(0);
        checks.due("groups() when one of two is removed", x.groups(), 2);
        dueGroup(x, 1, 8, 2, 8, 1);
        x.remove(0);
        checks.due("groups() when both are removed", x.groups(), 1);
        checks.due("groupInfo(1, 0)", x.groupInfo(1, 0), INVALID);
        x.remove(0);
        checks.due("groups() of none", x.groups(), 0);
        checks.due("groupInfo(0, 0)", x.groupInfo(0, 0), INVALID);
    }

    private void leastGroup() {
        checks.sentence(11, "0: its position; 1: its weight; 2: its moment; 3: number of its points");
        dueGroup(Checks.with(0, 0, 1), 0, 0, 1, 0, 1);
        dueGroup(Checks.with(9, 9, 2, 0, -1, 1), 0, 0, 1, -1, 1);
        dueGroup(Checks.with(0, 5, 1, 0, -5, 1, 1, 3, 1), 0, 0, 2, 0, 2);
    }

    private void greatestGroup() {
        checks.sentence(11, "the weight is the sum of the weights, the moment of weight times value");
        ShapeFits x = new ShapeFits();
        for (int i = 0; i < 12; i++) {
            x.add(40, -99, 2);
        }
        dueGroup(x, 0, 40, 24, -2376, 12);
        x.mirror(1);
        dueGroup(x, 0, 40, 24, 2376, 12);
        for (int group : new int[] {-1, 1, 12, Integer.MAX_VALUE}) {
            checks.due("groupInfo(" + group + ", 0)", x.groupInfo(group, 0), INVALID);
        }
        checks.due("groupInfo(0, 4)", x.groupInfo(0, 4), INVALID);
        checks.due("groupInfo(0, -1)", x.groupInfo(0, -1), INVALID);
    }
}
