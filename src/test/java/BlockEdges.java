/** Edges of the fits of the kinds 0 to 3, their turns and blocks: promises 12 to 17. */
final class BlockEdges extends Edges {
    BlockEdges(Checks checks) {
        super(checks);
    }

    @Override
    void check() {
        noGroupIsLess();
        noGroupIsGreater();
        leastDifferenceOfMeans();
        onlyTheLastIsLess();
        theTurnIsPartOfBothSides();
        turnAtTheEnds();
        blockAroundTheTurn();
        lowestTerms();
        errorWithinGroups();
        errorsOfFits();
        lowestTurn();
        turnErrorsAtTheEnds();
        countsOfBlocks();
        equalNumbersApart();
        equalPoolsAreOneBlock();
        blocksOfEachKind();
        withoutPoints();
        wrongArguments();
        refusedInOrder();
    }

    private void dueNumbers(ShapeFits x, int kind, int... numbers) {
        for (int group = 0; group < numbers.length; group++) {
            checks.dueFraction("fit(" + kind + ", " + group + ")", Checks.fit(x, kind, group),
                    numbers[group], 1);
        }
    }

    private void dueError(ShapeFits x, int kind, long numerator, long denominator) {
        checks.dueFraction("error(" + kind + ")", Checks.error(x, kind), numerator, denominator);
    }

    private void dueTurnError(ShapeFits x, int kind, int turn, long num, long den) {
        checks.dueFraction("turnError(" + kind + ", " + turn + ")",
                Checks.turnError(x, kind, turn), num, den);
    }

    private void dueBlock(ShapeFits x, int kind, int block, int... due) {
        for (int what = 0; what < 4; what++) {
            checks.due("blockInfo(" + kind + ", " + block + ", " + what + ")",
                    x.blockInfo(kind, block, what), due[what]);
        }
    }

    /** The means are 1 / 11 and 1 / 10. */
    private static ShapeFits twoNearMeans() {
        return Checks.with(3, 1, 1, 3, 0, 2, 3, 0, 2, 3, 0, 2, 3, 0, 2, 3, 0, 2,
                4, 1, 1, 4, 0, 1, 4, 0, 2, 4, 0, 2, 4, 0, 2, 4, 0, 2);
    }

    private void noGroupIsLess() {
        checks.sentence(12, "0 rising: no number is less than that of the group before");
        dueNumbers(Checks.values(1, 1, 2, 2), 0, 1, 1, 2, 2);
        dueNumbers(Checks.values(3, 1), 0, 2, 2);
        dueNumbers(Checks.values(4, 3, 2, 1, 0), 0, 2, 2, 2, 2, 2);
        dueNumbers(Checks.values(-99, 99, -99), 0, -99, 0, 0);
        dueNumbers(Checks.values(99, -99, 99), 0, 0, 0, 99);
    }

    private void noGroupIsGreater() {
        checks.sentence(12, "1 falling: no number is greater than that of the group before");
        dueNumbers(Checks.values(2, 2, 1, 1), 1, 2, 2, 1, 1);
        dueNumbers(Checks.values(1, 3), 1, 2, 2);
        dueNumbers(Checks.values(0, 1, 2, 3, 4), 1, 2, 2, 2, 2, 2);
        dueNumbers(Checks.values(-99, 99, -99), 1, 0, 0, -99);
        dueNumbers(Checks.values(99, -99, 99), 1, 99, 0, 0);
    }

    private void leastDifferenceOfMeans() {
        checks.sentence(12, "the fit with the least error in which no number is less");
        ShapeFits x = twoNearMeans();
        dueFit(x, 0, 1, 11, 1, 10);
        dueFit(x, 1, 2, 21, 2, 21);
        dueFit(x, 2, 1, 11, 1, 10);
        dueFit(x, 3, 1, 11, 1, 10);
        x.mirror(0);
        dueFit(x, 0, 2, 21, 2, 21);
        dueFit(x, 1, 1, 10, 1, 11);
        x.mirror(1);
        dueFit(x, 0, -1, 10, -1, 11);
        dueFit(x, 1, -2, 21, -2, 21);
    }

    private void onlyTheLastIsLess() {
        checks.sentence(12, "0 rising: no number is less than that of the group before");
        ShapeFits x = Checks.values(0, 1, 2, 3, 4, 5, 6, 7, 8, 9, 10, -55);
        for (int group = 0; group < 12; group++) {
            checks.dueFraction("fit(0, " + group + ")", Checks.fit(x, 0, group), 0, 1);
        }
        x.setPoint(11, -54, 1);
        dueFit(x, 0, 0, 1, 1, 11);
        x.mirror(1);
        dueFit(x, 1, 0, 1, -1, 11);
    }

    private void theTurnIsPartOfBothSides() {
        checks.sentence(12, "up to and including it do not fall, and those from it on do not rise");
        dueNumbers(Checks.values(1, 5, 3), 2, 1, 5, 3);
        dueNumbers(Checks.values(1, 5, 5, 3), 2, 1, 5, 5, 3);
        dueNumbers(Checks.values(5, 1, 3), 3, 5, 1, 3);
        dueNumbers(Checks.values(5, 1, 1, 3), 3, 5, 1, 1, 3);
        dueFit(Checks.values(5, 1, 3, 0), 2, 5, 1, 2, 1, 2, 1, 0, 1);
        dueFit(Checks.values(-5, -1, -3, 0), 3, -5, 1, -2, 1, -2, 1, 0, 1);
    }

    private void turnAtTheEnds() {
        checks.sentence(12, "there is a group, the turn (also the first or the last one)");
        dueNumbers(Checks.values(9, 4, 1), 2, 9, 4, 1);
        dueNumbers(Checks.values(1, 4, 9), 2, 1, 4, 9);
        dueNumbers(Checks.values(9, 4, 1), 3, 9, 4, 1);
        dueNumbers(Checks.values(1, 4, 9), 3, 1, 4, 9);
        dueNumbers(Checks.values(7), 2, 7);
        dueNumbers(Checks.values(-7), 3, -7);
    }

    private void blockAroundTheTurn() {
        checks.sentence(12, "the fit for a given turn is the one with the least error for this turn");
        ShapeFits x = Checks.values(0, 9, 8, 1, 7, 6, -4);
        dueTurnError(x, 2, 0, 208, 3);
        dueTurnError(x, 2, 1, 62, 3);
        checks.due("turn(2)", x.turn(2), 1);
        dueFit(x, 2, 0, 1, 9, 1, 8, 1, 14, 3, 14, 3, 14, 3, -4, 1);
    }

    private void lowestTerms() {
        checks.sentence(12, "in lowest terms with a positive denominator (0 as 0 / 1)");
        dueFit(Checks.with(0, 4, 2, 0, 1, 2), 0, 5, 2);
        dueFit(Checks.with(0, -4, 2, 0, -1, 2), 1, -5, 2);
        dueFit(Checks.with(0, -4, 2, 0, 4, 2), 2, 0, 1);
        dueFit(Checks.with(0, 0, 2, 0, 0, 1), 3, 0, 1);
        dueFit(Checks.with(0, -99, 2, 1, -99, 2), 3, -99, 1, -99, 1);
        checks.sentence(13, "in lowest terms with a positive denominator (0 as 0 / 1)");
        dueError(Checks.with(0, -3, 2), 0, 0, 1);
        dueError(Checks.with(0, 1, 2, 0, 0, 2), 1, 1, 1);
        dueError(Checks.with(0, 1, 1, 0, 0, 2), 2, 2, 3);
        checks.sentence(15, "in lowest terms with a positive denominator (0 as 0 / 1)");
        dueTurnError(Checks.with(0, -3, 2), 2, 0, 0, 1);
        dueTurnError(Checks.with(0, 1, 1, 0, 0, 2), 3, 0, 2, 3);
    }

    private void errorWithinGroups() {
        checks.sentence(13, "the sum, over all points, of weight times the square");
        ShapeFits x = Checks.with(40, 99, 2, 40, -99, 2);
        for (int kind = 0; kind < 4; kind++) {
            dueError(x, kind, 39204, 1);
        }
        for (int i = 0; i < 10; i++) {
            x.add(40, i % 2 == 0 ? 99 : -99, 2);
        }
        dueError(x, 0, 235224, 1);
        x.setPoint(0, 98, 1);
        dueError(x, 0, 5170198, 23);
    }

    private void errorsOfFits() {
        checks.sentence(13, "kind: 0 to 3");
        ShapeFits x = twoNearMeans();
        dueError(x, 0, 199, 110);
        dueError(x, 1, 38, 21);
        dueError(x, 2, 199, 110);
        dueError(x, 3, 199, 110);
        dueError(Checks.values(1, 2, 3), 0, 0, 1);
        dueError(Checks.values(1, 2, 3), 1, 2, 1);
        dueError(Checks.values(2, 2, 2), 1, 0, 1);
    }

    private void lowestTurn() {
        checks.sentence(14, "of several turns with the same least error the lowest one is taken");
        for (int kind = 2; kind <= 3; kind++) {
            checks.due("turn of one group", Checks.values(5).turn(kind), 0);
            checks.due("turn of 12 equal groups",
                    Checks.values(3, 3, 3, 3, 3, 3, 3, 3, 3, 3, 3, 3).turn(kind), 0);
        }
        checks.due("turn(2) when falling", Checks.values(3, 2, 1).turn(2), 0);
        checks.due("turn(2) when rising", Checks.values(1, 2, 3).turn(2), 2);
        checks.due("turn(3) when falling", Checks.values(3, 2, 1).turn(3), 2);
        checks.due("turn(3) when rising", Checks.values(1, 2, 3).turn(3), 0);
        checks.due("turn(2) of a flat top", Checks.values(0, 4, 4, 4, 0).turn(2), 1);
        checks.due("turn(3) of a flat bottom", Checks.values(4, 0, 0, 0, 4).turn(3), 1);
        ShapeFits x = Checks.values(0, 4, 0, 4, 0);
        checks.due("turn(2) of two tops", x.turn(2), 1);
        dueTurnError(x, 2, 1, 8, 1);
        dueTurnError(x, 2, 3, 8, 1);
        checks.sentence(12, "of several turns with the same least error the lowest one is taken");
        dueNumbers(x, 2, 0, 4, 2, 2, 0);
        x.mirror(1);
        dueNumbers(x, 3, 0, -4, -2, -2, 0);
        checks.sentence(17, "of several turns with the same least error the lowest one is taken");
        dueBlock(x, 3, 1, 1, 1, 1, -4);
        dueBlock(x, 3, 2, 2, 3, 2, -4);
    }

    private void turnErrorsAtTheEnds() {
        checks.sentence(15, "the error of the fit with a given turn (also the first or last group)");
        ShapeFits x = Checks.values(3, 1, 2);
        dueTurnError(x, 2, 0, 1, 2);
        dueTurnError(x, 2, 1, 2, 1);
        dueTurnError(x, 2, 2, 2, 1);
        dueTurnError(x, 3, 0, 2, 1);
        dueTurnError(x, 3, 1, 0, 1);
        dueTurnError(x, 3, 2, 1, 2);
        dueTurnError(Checks.with(8, 1, 1, 8, 3, 1), 2, 0, 2, 1);
        checks.due("turnError(2, 3, 0)", x.turnError(2, 3, 0), INVALID);
        checks.due("turnError(2, -1, 0)", x.turnError(2, -1, 0), INVALID);
    }

    private void countsOfBlocks() {
        checks.sentence(16, "A block is a longest sequence of successive groups with the same number");
        int[] rising = {0, 1, 2, 3, 4, 5, 6, 7, 8, 9, 10, 11};
        checks.due("blocks(0)", Checks.values(rising).blocks(0), 12);
        checks.due("blocks(1)", Checks.values(rising).blocks(1), 1);
        checks.due("blocks(2)", Checks.values(rising).blocks(2), 12);
        checks.due("blocks(3)", Checks.values(rising).blocks(3), 12);
        for (int kind = 0; kind < 4; kind++) {
            checks.due("blocks of equal groups", Checks.values(7, 7, 7, 7).blocks(kind), 1);
            checks.due("blocks of one group", Checks.with(9, 4, 1, 9, 5, 1).blocks(kind), 1);
        }
        checks.sentence(17, "0: its first group; 1: its last group; 2: its weight; 3: its moment");
        ShapeFits x = Checks.values(rising);
        for (int block = 0; block < 12; block++) {
            dueBlock(x, 0, block, block, block, 1, block);
        }
        dueBlock(x, 1, 0, 0, 11, 12, 66);
        checks.due("blockInfo(0, 12, 0)", x.blockInfo(0, 12, 0), NOT_FOUND);
        checks.due("blockInfo(1, 1, 0)", x.blockInfo(1, 1, 0), NOT_FOUND);
    }

    private void equalNumbersApart() {
        checks.sentence(16, "A block is a longest sequence of successive groups with the same number");
        checks.due("blocks(2): 1, 5, 1", Checks.values(1, 5, 1).blocks(2), 3);
        checks.due("blocks(3): 5, 1, 5", Checks.values(5, 1, 5).blocks(3), 3);
        checks.due("blocks(2): 1, 1, 5, 1, 1", Checks.values(1, 1, 5, 1, 1).blocks(2), 3);
        checks.sentence(17, "A block is a longest sequence of successive groups with the same number");
        dueBlock(Checks.values(1, 1, 5, 1, 1), 2, 2, 3, 4, 2, 2);
    }

    private void equalPoolsAreOneBlock() {
        checks.sentence(16, "A block is a longest sequence of successive groups with the same number");
        checks.due("blocks(0): 2, 3, 1, 2", Checks.values(2, 3, 1, 2).blocks(0), 1);
        checks.due("blocks(0): 3, 1, 3, 1", Checks.values(3, 1, 3, 1).blocks(0), 1);
        checks.due("blocks(1): 1, 3, 2, 1, 3", Checks.values(1, 3, 2, 1, 3).blocks(1), 1);
        checks.due("blocks(2): 4, 4, 1, 3, 2", Checks.values(4, 4, 1, 3, 2).blocks(2), 2);
        checks.due("blocks(3): 1, 1, 4, 2, 3", Checks.values(1, 1, 4, 2, 3).blocks(3), 2);
        ShapeFits thirds = Checks.with(1, 0, 2, 1, 1, 1, 2, 1, 1, 2, 0, 1, 2, 0, 1);
        checks.due("blocks(0): 1/3, 1/3", thirds.blocks(0), 1);
        checks.sentence(17, "A block is a longest sequence of successive groups with the same number");
        dueBlock(Checks.values(2, 3, 1, 2), 0, 0, 0, 3, 4, 8);
        dueBlock(Checks.values(4, 4, 1, 3, 2), 2, 0, 0, 1, 2, 8);
        dueBlock(Checks.values(4, 4, 1, 3, 2), 2, 1, 2, 4, 3, 6);
        dueBlock(thirds, 0, 0, 0, 1, 6, 2);
    }

    private void blocksOfEachKind() {
        checks.sentence(17, "block: 0 for the first one, and so on");
        ShapeFits x = Checks.with(0, 1, 2, 10, 5, 1, 20, 3, 1, 30, -2, 2);
        dueBlock(x, 0, 0, 0, 3, 6, 6);
        dueBlock(x, 1, 0, 0, 2, 4, 10);
        dueBlock(x, 1, 1, 3, 3, 2, -4);
        x.setPoint(3, 9, 2);
        dueBlock(x, 0, 0, 0, 0, 2, 2);
        dueBlock(x, 0, 1, 1, 2, 2, 8);
        dueBlock(x, 0, 2, 3, 3, 2, 18);
        checks.due("blockInfo(0, 3, 0)", x.blockInfo(0, 3, 0), NOT_FOUND);
    }

    private void withoutPoints() {
        ShapeFits x = Checks.with(4, 4, 1);
        x.remove(0);
        for (int kind = 0; kind < 4; kind++) {
            checks.sentence(12, "If there is no group with a certain number, INVALID_ARGUMENT");
            checks.due("fit(" + kind + ", 0, 1)", x.fit(kind, 0, 1), INVALID);
            checks.sentence(13, "NOT_POSSIBLE if there are no points");
            checks.due("error(" + kind + ", 1)", x.error(kind, 1), NOT_POSSIBLE);
            checks.sentence(16, "0 if there are no points");
            checks.due("blocks(" + kind + ")", x.blocks(kind), 0);
            checks.sentence(17, "NOT_FOUND if there are not so many blocks");
            checks.due("blockInfo(" + kind + ", 0, 0)", x.blockInfo(kind, 0, 0), NOT_FOUND);
        }
        for (int kind = 2; kind < 4; kind++) {
            checks.sentence(14, "NOT_POSSIBLE if there are no points");
            checks.due("turn(" + kind + ")", x.turn(kind), NOT_POSSIBLE);
            checks.sentence(15, "If there is no group with a certain number, INVALID_ARGUMENT");
            checks.due("turnError(" + kind + ", 0, 0)", x.turnError(kind, 0, 0), INVALID);
        }
    }

    private void wrongArguments() {
        ShapeFits x = Checks.values(5, 1);
        checks.sentence(12, "kind: 0 to 5; number of the group; what: 0 or 1");
        checks.due("fit(-1, 0, 0)", x.fit(-1, 0, 0), INVALID);
        checks.due("fit(6, 0, 0)", x.fit(6, 0, 0), INVALID);
        checks.due("fit(0, 2, 0)", x.fit(0, 2, 0), INVALID);
        checks.due("fit(0, -1, 0)", x.fit(0, -1, 0), INVALID);
        checks.due("fit(0, 0, 2)", x.fit(0, 0, 2), INVALID);
        checks.due("fit(0, 0, -1)", x.fit(0, 0, -1), INVALID);
        checks.sentence(13, "kind: 0 to 3; what: 0 or 1");
        checks.due("error(4, 0)", x.error(4, 0), INVALID);
        checks.due("error(5, 0)", x.error(5, 0), INVALID);
        checks.due("error(-1, 0)", x.error(-1, 0), INVALID);
        checks.due("error(0, 2)", x.error(0, 2), INVALID);
        checks.sentence(14, "kind: 2 or 3");
        checks.due("turn(1)", x.turn(1), INVALID);
        checks.due("turn(4)", x.turn(4), INVALID);
        checks.sentence(15, "kind: 2 or 3; what: 0 or 1");
        checks.due("turnError(1, 0, 0)", x.turnError(1, 0, 0), INVALID);
        checks.due("turnError(4, 0, 0)", x.turnError(4, 0, 0), INVALID);
        checks.due("turnError(2, 0, 2)", x.turnError(2, 0, 2), INVALID);
        checks.sentence(16, "kind: 0 to 3");
        checks.due("blocks(-1)", x.blocks(-1), INVALID);
        checks.due("blocks(4)", x.blocks(4), INVALID);
    }

    private void refusedInOrder() {
        checks.sentence(13, "INVALID_ARGUMENT is returned rather than NOT_POSSIBLE");
        ShapeFits none = new ShapeFits();
        checks.due("error(4, 0)", none.error(4, 0), INVALID);
        checks.due("error(0, 2)", none.error(0, 2), INVALID);
        checks.sentence(14, "INVALID_ARGUMENT is returned rather than NOT_POSSIBLE");
        checks.due("turn(1)", none.turn(1), INVALID);
        checks.due("turn(4)", none.turn(4), INVALID);
        checks.sentence(16, "INVALID_ARGUMENT if kind is out of range");
        checks.due("blocks(4) of none", none.blocks(4), INVALID);
        checks.sentence(17, "INVALID_ARGUMENT if kind or what is out of range or block is negative");
        ShapeFits x = Checks.values(5, 1);
        checks.due("blockInfo(4, 0, 0)", x.blockInfo(4, 0, 0), INVALID);
        checks.due("blockInfo(0, -1, 0)", x.blockInfo(0, -1, 0), INVALID);
        checks.due("blockInfo(0, 0, 4)", x.blockInfo(0, 0, 4), INVALID);
        checks.due("blockInfo(0, 0, -1)", x.blockInfo(0, 0, -1), INVALID);
        checks.due("blockInfo(0, 1, 0)", x.blockInfo(0, 1, 0), NOT_FOUND);
        checks.due("blockInfo(4, 1, 0), no such block", x.blockInfo(4, 1, 0), INVALID);
        checks.due("blockInfo(0, 1, 4), no such block", x.blockInfo(0, 1, 4), INVALID);
        checks.due("blockInfo(4, 0, 0) of none", none.blockInfo(4, 0, 0), INVALID);
        checks.due("blockInfo(0, -1, 0) of none", none.blockInfo(0, -1, 0), INVALID);
    }
}
