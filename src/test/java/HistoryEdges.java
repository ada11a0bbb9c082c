/** Edges of changes, of the history, and of errors that change nothing: promise 7. */
final class HistoryEdges extends Edges {
    HistoryEdges(Checks checks) {
        super(checks);
    }

    @Override
    void check() {
        emptyHistory();
        statesLeft();
        theOldestIsDropped();
        eachChangeAtTheLimit();
        changesThatChangeNothing();
        errorsAreNotRecorded();
        whatIsNoChange();
        undoIsNoChange();
        numbersAreRestored();
        theTextStays();
        toTheLastCall();
    }

    /** Five changes of different kinds after an empty object: see the values of the point. */
    private static ShapeFits fiveChanges() {
        ShapeFits x = new ShapeFits();
        Checks.write(x, "30:7*2;");
        x.add(10, 1, 1);
        x.setPoint(0, 2, 2);
        x.mirror(0);
        x.mirror(1);
        x.lay();
        return x;
    }

    private void emptyHistory() {
        checks.sentence(7, "NOT_POSSIBLE if it is empty");
        ShapeFits x = new ShapeFits();
        checks.due("undo()", x.undo(), NOT_POSSIBLE);
        x.add(1, 1, 1);
        checks.due("undo() of one change", x.undo(), 0);
        checks.due("undo()", x.undo(), NOT_POSSIBLE);
        checks.due("undo() again", x.undo(), NOT_POSSIBLE);
        checks.due("points()", x.points(), 0);
    }

    private void statesLeft() {
        checks.sentence(7, "Returns the number of states that are left in the history");
        for (int changes = 1; changes <= 6; changes++) {
            ShapeFits x = new ShapeFits();
            for (int i = 0; i < changes; i++) {
                x.add(i, i, 1);
            }
            for (int left = changes - 1; left >= 0; left--) {
                checks.due("undo() after " + changes, x.undo(), left);
                checks.due("points() after " + changes, x.points(), left);
            }
            checks.due("undo() at the end", x.undo(), NOT_POSSIBLE);
        }
    }

    private void theOldestIsDropped() {
        checks.sentence(7, "if there are 7 states then, the oldest one is dropped");
        for (int changes = 7; changes <= 30; changes++) {
            ShapeFits x = new ShapeFits();
            x.add(0, -1, 1);
            for (int i = 1; i < changes; i++) {
                x.setPoint(0, i, 1);
            }
            for (int left = 5; left >= 0; left--) {
                checks.due("undo() after " + changes, x.undo(), left);
                checks.due("value after " + changes, x.pointInfo(0, 1),
                        changes == 7 && left == 0 ? -1 : changes - 7 + left);
            }
            checks.due("undo() at the end", x.undo(), NOT_POSSIBLE);
            checks.due("points()", x.points(), 1);
        }
    }

    private void eachChangeAtTheLimit() {
        checks.sentence(7, "each change records the points before it");
        ShapeFits x = fiveChanges();
        x.remove(0);
        x.add(3, 3, 1);
        int[][] due = {{5, 0, 0}, {4, 30, 7}, {3, 30, -2}, {2, 30, 2}, {1, 10, 2}, {0, 10, 1}};
        for (int[] state : due) {
            checks.due("undo()", x.undo(), state[0]);
            checks.due("points()", x.points(), state[0] == 5 ? 0 : 1);
            if (state[0] < 5) {
                checks.due("position", x.pointInfo(0, 0), state[1]);
                checks.due("value", x.pointInfo(0, 1), state[2]);
            }
        }
        checks.due("undo()", x.undo(), NOT_POSSIBLE);
    }

    private void changesThatChangeNothing() {
        checks.sentence(7, "return no error (also if nothing becomes different)");
        ShapeFits x = new ShapeFits();
        checks.due("mirror(0) of none", x.mirror(0), 0);
        checks.due("mirror(1) of none", x.mirror(1), 0);
        checks.due("lay() of no text", x.lay(), 0);
        checks.due("undo() of lay", x.undo(), 2);
        checks.due("undo() of mirror(1)", x.undo(), 1);
        checks.due("undo() of mirror(0)", x.undo(), 0);
        ShapeFits y = Checks.with(20, 0, 2);
        Checks.write(y, "20:0*2;");
        y.setPoint(0, 0, 2);
        y.mirror(0);
        y.mirror(1);
        y.lay();
        for (int left = 4; left >= 1; left--) {
            checks.due("undo() to the same point", y.undo(), left);
            checks.due("points()", y.points(), 1);
        }
        checks.due("undo() of add", y.undo(), 0);
        checks.due("points()", y.points(), 0);
    }

    private void errorsAreNotRecorded() {
        checks.sentence(7, "A call that returns an error changes nothing");
        ShapeFits x = new ShapeFits();
        checks.due("remove(0)", x.remove(0), INVALID);
        checks.due("setPoint(0, 0, 1)", x.setPoint(0, 0, 1), INVALID);
        checks.due("mirror(2)", x.mirror(2), INVALID);
        checks.due("add(0, 0, 3)", x.add(0, 0, 3), INVALID);
        x.type('x');
        checks.due("lay()", x.lay(), NOT_POSSIBLE);
        checks.due("undo()", x.undo(), NOT_POSSIBLE);
        for (int i = 0; i < 12; i++) {
            x.add(i, i, 1);
        }
        for (int i = 0; i < 9; i++) {
            checks.due("add to 12", x.add(i, i, 1), LIMIT);
            checks.due("lay()", x.lay(), NOT_POSSIBLE);
        }
        checks.due("undo() after refusals", x.undo(), 5);
        checks.due("points()", x.points(), 11);
    }

    private void whatIsNoChange() {
        checks.sentence(7, "The changes are the calls of add, remove, setPoint, mirror and lay");
        ShapeFits x = new ShapeFits();
        x.type('1');
        x.fault();
        x.clearText();
        x.reason(0);
        x.points();
        checks.due("undo() after type, fault, clearText", x.undo(), NOT_POSSIBLE);
        ShapeFits y = fiveChanges();
        y.clearText();
        y.type('x');
        y.fault();
        checks.due("undo() after five changes", y.undo(), 4);
    }

    private void undoIsNoChange() {
        checks.sentence(7, "Restores the latest state of the history, which is removed from it");
        ShapeFits x = Checks.values(1, 2, 3, 4, 5, 6, 7, 8);
        checks.due("undo()", x.undo(), 5);
        checks.due("undo()", x.undo(), 4);
        checks.due("points()", x.points(), 6);
        x.setPoint(0, 50, 1);
        x.setPoint(0, 51, 1);
        checks.due("undo() of the second setPoint", x.undo(), 5);
        checks.due("value", x.pointInfo(0, 1), 50);
        checks.due("undo() of the first setPoint", x.undo(), 4);
        checks.due("value", x.pointInfo(0, 1), 1);
        for (int left = 3; left >= 0; left--) {
            checks.due("undo() of add", x.undo(), left);
        }
        checks.due("points(): two states were dropped", x.points(), 2);
        checks.due("undo()", x.undo(), NOT_POSSIBLE);
    }

    private void numbersAreRestored() {
        checks.sentence(7, "Restores the latest state of the history");
        for (int removed = 0; removed < 3; removed++) {
            ShapeFits x = Checks.with(5, 1, 1, 5, 2, 2, 0, 3, 1);
            x.remove(removed);
            x.undo();
            checks.due("points()", x.points(), 3);
            checks.due("groups()", x.groups(), 2);
            for (int point = 0; point < 3; point++) {
                checks.due("value of point " + point, x.pointInfo(point, 1), point + 1);
                checks.due("weight of point " + point, x.pointInfo(point, 2), 1 + point % 2);
                checks.due("group of point " + point, x.pointInfo(point, 3), point < 2 ? 1 : 0);
            }
            checks.due("error(0, 0)", x.error(0, 0), 2);
        }
    }

    private void theTextStays() {
        checks.sentence(7, "each change records the points before it");
        ShapeFits x = fiveChanges();
        x.clearText();
        Checks.write(x, "1:");
        x.fault();
        x.undo();
        checks.due("reason(1) after undo", x.reason(1), 2);
        checks.due("clearText() after undo", x.clearText(), 2);
    }

    private void toTheLastCall() {
        checks.sentence(7, "An object is used for at most 512 calls");
        ShapeFits x = new ShapeFits();
        for (int pair = 0; pair < 250; pair++) {
            checks.due("add", x.add(pair % 41, pair % 100, 1), 0);
            checks.due("undo()", x.undo(), 0);
        }
        for (int i = 0; i < 9; i++) {
            checks.due("mirror(0)", x.mirror(0), 0);
        }
        checks.due("undo(), the 510th call", x.undo(), 5);
        checks.due("add, the 511th call", x.add(40, -99, 2), 0);
        checks.due("undo(), the 512th call", x.undo(), 5);
    }
}
