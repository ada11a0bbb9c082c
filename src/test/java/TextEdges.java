/** Edges of the text, its fault and the chain of reasons: promises 6 and 25 to 28. */
final class TextEdges extends Edges {
    private static final String TWELVE = "1:1;".repeat(12);

    TextEdges(Checks checks) {
        super(checks);
    }

    @Override
    void check() {
        eachCharacter();
        ninetyCharacters();
        clearing();
        noText();
        digitsOfPositions();
        digitsOfValues();
        weightsAndMissingWeights();
        separators();
        whereTheFaultIs();
        behindTheTwelfth();
        firstFromTheLeft();
        endOfTheText();
        initialChain();
        latestCall();
        otherCallsKeepTheChain();
        layingReplacesAll();
        layingTwelve();
        layingIsRefused();
    }

    private static ShapeFits written(String text) {
        ShapeFits x = new ShapeFits();
        Checks.write(x, text);
        return x;
    }

    /** Checks that a text has no fault, no chain, and makes so many points. */
    private void dueGood(String text, int points) {
        ShapeFits x = written(text);
        checks.due("fault() of " + text, x.fault(), NOT_FOUND);
        checks.due("reason(0) of " + text, x.reason(0), NOT_FOUND);
        checks.due("lay() of " + text, x.lay(), points);
    }

    /** Checks a text that makes one point. */
    private void duePoint(String text, int position, int value, int weight) {
        ShapeFits x = written(text);
        checks.due("lay() of " + text, x.lay(), 1);
        checks.due("position of " + text, x.pointInfo(0, 0), position);
        checks.due("value of " + text, x.pointInfo(0, 1), value);
        checks.due("weight of " + text, x.pointInfo(0, 2), weight);
    }

    private void dueFault(String text, int place) {
        checks.due("fault() of " + text, written(text).fault(), place);
        checks.due("lay() of " + text, written(text).lay(), NOT_POSSIBLE);
    }

    /** Checks the chain of a text with a fault, for fault and for lay. */
    private void dueChain(String text, int... chain) {
        ShapeFits asked = written(text);
        asked.fault();
        ShapeFits laid = written(text);
        laid.lay();
        for (int index = 0; index < chain.length; index++) {
            String call = "reason(" + index + ") of " + text;
            checks.due(call, asked.reason(index), chain[index]);
            checks.due(call + " after lay", laid.reason(index), chain[index]);
        }
        checks.due("reason behind those of " + text, asked.reason(chain.length), NOT_FOUND);
        checks.due("reason behind those of " + text + " after lay", laid.reason(chain.length),
                NOT_FOUND);
    }

    private void eachCharacter() {
        checks.sentence(25, "character: 32 to 126");
        ShapeFits x = new ShapeFits();
        checks.due("type(31)", x.type(31), INVALID);
        checks.due("type(127)", x.type(127), INVALID);
        checks.due("type(0)", x.type(0), INVALID);
        checks.due("type(-1)", x.type(-1), INVALID);
        checks.due("type(49 + 256)", x.type(49 + 256), INVALID);
        checks.due("type(49 + 65536)", x.type(49 + 65536), INVALID);
        checks.due("type(49 - 65536)", x.type(49 - 65536), INVALID);
        int length = 0;
        for (int character = 32; character <= 121; character++) {
            length++;
            checks.due("type(" + character + ")", x.type(character), length);
        }
        x.clearText();
        for (int character = 122; character <= 126; character++) {
            checks.due("type(" + character + ")", x.type(character), character - 121);
        }
    }

    private void ninetyCharacters() {
        checks.sentence(25, "LIMIT_REACHED if it has 90 characters");
        ShapeFits x = written(TWELVE + "z".repeat(41));
        checks.due("the 90th type", x.type('z'), 90);
        checks.due("the 91st type", x.type('z'), LIMIT);
        checks.due("the 92nd type", x.type(';'), LIMIT);
        checks.sentence(25, "INVALID_ARGUMENT is returned rather than LIMIT_REACHED");
        checks.due("type(31) to 90", x.type(31), INVALID);
        checks.due("type(127) to 90", x.type(127), INVALID);
        checks.sentence(26, "Returns the length it had");
        checks.due("clearText() of 90", x.clearText(), 90);
        checks.sentence(25, "Returns the length of the text");
        checks.due("type after clearText", x.type('1'), 1);
        checks.sentence(27, "There is a text of at most 90 characters");
        dueGood("10:-99*2;".repeat(10), 10);
        dueFault("10:-99*2;".repeat(9) + "10:-99*22", 81);
        checks.sentence(28, "4 if a ; is not where it should be (also at the end of the text)");
        dueChain("10:-99*2;".repeat(9) + "10:-99*22", 19, 4);
        dueChain("10:-99*2;".repeat(9) + "1:-99*2;5", 20, 4);
    }

    private void clearing() {
        checks.sentence(26, "Empties the text");
        ShapeFits x = new ShapeFits();
        checks.due("clearText() of no text", x.clearText(), 0);
        x.type('x');
        checks.due("clearText() of one character", x.clearText(), 1);
        checks.due("clearText() again", x.clearText(), 0);
        checks.due("fault()", x.fault(), NOT_FOUND);
        checks.due("lay()", x.lay(), 0);
        Checks.write(x, "2:3;");
        x.clearText();
        Checks.write(x, "4");
        checks.due("fault(): nothing is left behind the end", x.fault(), 0);
        checks.due("clearText()", x.clearText(), 1);
    }

    private void noText() {
        checks.sentence(27, "NOT_FOUND if it has none (also if it is empty)");
        dueGood("", 0);
        dueGood("0:0;", 1);
        checks.due("fault() of a new object", new ShapeFits().fault(), NOT_FOUND);
        checks.due("fault() again", written("0:0;").fault(), NOT_FOUND);
    }

    private void digitsOfPositions() {
        checks.sentence(6, "A position has one or two digits");
        duePoint("0:1;", 0, 1, 1);
        duePoint("00:1;", 0, 1, 1);
        duePoint("09:1;", 9, 1, 1);
        duePoint("39:1;", 39, 1, 1);
        duePoint("40:1;", 40, 1, 1);
        checks.sentence(27, "A position has one or two digits; whose position is greater than 40");
        dueFault("41:1;", 0);
        dueFault("99:1;", 0);
        dueFault("040:1;", 0);
        dueFault("001:1;", 0);
        dueFault("-1:1;", 0);
        dueFault("+1:1;", 0);
        dueFault(":1;", 0);
        checks.sentence(28, "1 if a position; 6 if there is no digit; 7 if out of range");
        dueChain("41:1;", 10, 1, 7);
        dueChain("99:1;", 10, 1, 7);
        dueChain("040:1;", 10, 4);
        dueChain("-1:1;", 10, 1, 6);
        dueChain(":1;", 10, 1, 6);
        dueChain(";", 10, 1, 6);
        dueChain("/:1;", 10, 1, 6);
    }

    private void digitsOfValues() {
        checks.sentence(6, "a value is an optional - and one or two digits (zeros ahead are allowed)");
        duePoint("1:0;", 1, 0, 1);
        duePoint("1:-0;", 1, 0, 1);
        duePoint("1:00;", 1, 0, 1);
        duePoint("1:-00;", 1, 0, 1);
        duePoint("1:07;", 1, 7, 1);
        duePoint("1:-07;", 1, -7, 1);
        duePoint("1:99;", 1, 99, 1);
        duePoint("1:-99;", 1, -99, 1);
        checks.sentence(27, "a value is an optional - and one or two digits");
        dueFault("1:;", 0);
        dueFault("1:-;", 0);
        dueFault("1:--1;", 0);
        dueFault("1:+1;", 0);
        dueFault("1:100;", 0);
        dueFault("1:-100;", 0);
        dueFault("1:001;", 0);
        checks.sentence(28, "2 if a value; 6 if there is no digit where one is expected");
        dueChain("1:;", 10, 2, 6);
        dueChain("1:-;", 10, 2, 6);
        dueChain("1:--1;", 10, 2, 6);
        dueChain("1: 1;", 10, 2, 6);
        dueChain("1:*1;", 10, 2, 6);
        dueChain("1:100;", 10, 4);
        dueChain("1:-100;", 10, 4);
        dueChain("1:1-;", 10, 4);
    }

    private void weightsAndMissingWeights() {
        checks.sentence(6, "optionally * and the weight (1 if it is missing)");
        duePoint("3:4;", 3, 4, 1);
        duePoint("3:4*1;", 3, 4, 1);
        duePoint("3:4*2;", 3, 4, 2);
        checks.sentence(27, "a weight is 1 or 2");
        dueFault("3:4*0;", 0);
        dueFault("3:4*3;", 0);
        dueFault("3:4*9;", 0);
        dueFault("3:4*;", 0);
        dueFault("3:4*01;", 0);
        dueFault("3:4*11;", 0);
        dueFault("3:4*-1;", 0);
        checks.sentence(28, "3 if a weight; 6 if there is no digit; 7 if out of range");
        dueChain("3:4*0;", 10, 3, 7);
        dueChain("3:4*3;", 10, 3, 7);
        dueChain("3:4*9;", 10, 3, 7);
        dueChain("3:4*;", 10, 3, 6);
        dueChain("3:4**1;", 10, 3, 6);
        dueChain("3:4*-1;", 10, 3, 6);
        dueChain("3:4*01;", 10, 3, 7);
        dueChain("3:4*11;", 10, 4);
        dueChain("3:4*1*1;", 10, 4);
    }

    private void separators() {
        checks.sentence(28, "4 if a : or ; is not where it should be");
        dueChain("1;1;", 10, 4);
        dueChain("1-1;", 10, 4);
        dueChain("1*1;", 10, 4);
        dueChain("12 :1;", 10, 4);
        dueChain("1:1:", 10, 4);
        dueChain("1:1 ;", 10, 4);
        dueChain("1:1,", 10, 4);
        dueChain("1:1*1:", 10, 4);
        checks.sentence(27, "each (also the last one) followed by ;");
        dueFault("1:1", 0);
        dueFault("1:1;2:2", 4);
        dueFault("1:1*2", 0);
        dueFault("1:1;;", 4);
        dueFault(";1:1;", 0);
        dueFault("1:1; ", 4);
        dueFault(" 1:1;", 0);
    }

    private void whereTheFaultIs() {
        checks.sentence(27, "the position, from 0, of the first character of the first point");
        String before = "";
        for (int points = 0; points < 12; points++) {
            dueFault(before + "1:1*3;1:1;", before.length());
            before += points % 2 == 0 ? "40:-99*2;" : "1:1;";
        }
        checks.sentence(28, "the first reason is 10 plus the number of points before the fault");
        for (int points = 0; points < 12; points++) {
            dueChain("1:1;".repeat(points) + "1:1*3;41:1;", 10 + points, 3, 7);
            dueChain("1:1;".repeat(points) + "1", 10 + points, 4);
        }
    }

    private void behindTheTwelfth() {
        checks.sentence(27, "or that is the 13th one");
        dueGood(TWELVE, 12);
        dueFault(TWELVE + "1:1;", 48);
        dueFault(TWELVE + "1", 48);
        dueFault(TWELVE + " ", 48);
        dueFault(TWELVE + "1:1;1:1;", 48);
        checks.sentence(28, "5 if anything stands behind the 12th point");
        for (String behind : new String[] {"1:1;", "1", " ", ";", "41:1;", ":", "1:1*3;"}) {
            dueChain(TWELVE + behind, 22, 5);
        }
        dueChain(TWELVE.substring(0, 47), 21, 4);
        dueChain(TWELVE.substring(0, 44) + "41:1;1:1;", 21, 1, 7);
    }

    private void firstFromTheLeft() {
        checks.sentence(28, "What is met first from the left to the right counts");
        dueChain("41", 10, 1, 7);
        dueChain("411:1;", 10, 1, 7);
        dueChain("41x", 10, 1, 7);
        dueChain("41;1*3;", 10, 1, 7);
        dueChain("4x:1;", 10, 4);
        dueChain("1x-*3", 10, 4);
        dueChain("1:x*3;", 10, 2, 6);
        dueChain("1:1x*3;", 10, 4);
        dueChain("1:1*3x", 10, 3, 7);
        dueChain("1:1*3", 10, 3, 7);
        dueChain("1:1*33;", 10, 3, 7);
        checks.sentence(28, "when its digits have been read (at most two, one for a weight)");
        dueChain("400:1;", 10, 4);
        dueChain("123:1;", 10, 4);
        dueChain("4", 10, 4);
        dueChain("1:999;", 10, 4);
        dueChain("1:1*20;", 10, 4);
        dueChain("1:1*00;", 10, 3, 7);
    }

    private void endOfTheText() {
        checks.sentence(28, "4 if a : or ; is not where it should be (also at the end of the text)");
        dueChain("1", 10, 4);
        dueChain("12", 10, 4);
        dueChain("1:1", 10, 4);
        dueChain("1:-11", 10, 4);
        dueChain("1:1*2", 10, 4);
        checks.sentence(28, "6 if there is no digit where one is expected (also at the end)");
        dueChain("1:", 10, 2, 6);
        dueChain("1:-", 10, 2, 6);
        dueChain("1:1*", 10, 3, 6);
        checks.sentence(27, "the first point that is not of this form (also at the end)");
        for (String text : new String[] {"1", "12", "1:", "1:-", "1:1", "1:1*", "1:1*1"}) {
            dueFault(text, 0);
            dueFault("2:2;" + text, 4);
        }
    }

    private void initialChain() {
        checks.sentence(28, "Initially the chain is empty");
        ShapeFits x = new ShapeFits();
        checks.due("reason(0)", x.reason(0), NOT_FOUND);
        Checks.write(x, "x");
        checks.due("reason(0) before fault", x.reason(0), NOT_FOUND);
        checks.sentence(28, "INVALID_ARGUMENT if index is negative");
        checks.due("reason(-1)", x.reason(-1), INVALID);
        x.fault();
        checks.due("reason(-1) with a chain", x.reason(-1), INVALID);
        checks.due("reason(least)", x.reason(Integer.MIN_VALUE), INVALID);
        checks.sentence(28, "NOT_FOUND if there are not so many");
        checks.due("reason(2)", x.reason(2), 6);
        checks.due("reason(3)", x.reason(3), NOT_FOUND);
        checks.due("reason(4)", x.reason(4), NOT_FOUND);
        checks.due("reason(most)", x.reason(Integer.MAX_VALUE), NOT_FOUND);
    }

    private void dueReasons(ShapeFits x, String when, int... chain) {
        for (int index = 0; index < chain.length; index++) {
            checks.due("reason(" + index + ") " + when, x.reason(index), chain[index]);
        }
        checks.due("reason(" + chain.length + ") " + when, x.reason(chain.length), NOT_FOUND);
    }

    private void latestCall() {
        checks.sentence(28, "The latest call of fault or lay (also one that returns NOT_POSSIBLE)");
        ShapeFits x = written("1:1*3;");
        x.fault();
        dueReasons(x, "of fault", 10, 3, 7);
        Checks.write(x, "1:1;2");
        x.lay();
        dueReasons(x, "of lay: a shorter chain", 11, 4);
        Checks.write(x, "1:1;2:2;41");
        x.fault();
        dueReasons(x, "of fault after lay", 12, 1, 7);
        checks.sentence(28, "which is empty if the text had no fault");
        Checks.write(x, "1:1;");
        x.lay();
        dueReasons(x, "of lay without a fault");
        Checks.write(x, "x");
        x.lay();
        Checks.write(x, "1:1;");
        x.fault();
        dueReasons(x, "of fault without a fault");
        Checks.write(x, "x");
        x.fault();
        x.clearText();
        x.fault();
        dueReasons(x, "of fault without a text");
        Checks.write(x, "x");
        x.fault();
        x.clearText();
        x.lay();
        dueReasons(x, "of lay without a text");
    }

    private void otherCallsKeepTheChain() {
        checks.sentence(28, "Returns a reason of the chain of the latest call of fault or lay");
        ShapeFits x = written("1:1;2:x");
        x.lay();
        x.type(';');
        dueReasons(x, "after type", 11, 2, 6);
        x.type(200);
        x.clearText();
        dueReasons(x, "after clearText", 11, 2, 6);
        x.add(1, 1, 1);
        x.mirror(1);
        x.setPoint(0, 5, 1);
        x.remove(0);
        dueReasons(x, "after changes", 11, 2, 6);
        x.undo();
        dueReasons(x, "after undo", 11, 2, 6);
        x.reason(7);
        x.reason(-1);
        x.error(0, 0);
        dueReasons(x, "after questions", 11, 2, 6);
    }

    private void layingReplacesAll() {
        checks.sentence(6, "Replaces all points by those of the text. The text stays");
        ShapeFits x = Checks.with(1, 1, 1, 2, 2, 2, 3, 3, 1);
        Checks.write(x, "9:-9*2;8:8;9:1;");
        checks.due("lay()", x.lay(), 3);
        checks.due("position", x.pointInfo(0, 0), 9);
        checks.due("group of the first point", x.pointInfo(0, 3), 1);
        checks.due("value of the last point", x.pointInfo(2, 1), 1);
        checks.due("groups()", x.groups(), 2);
        checks.due("moment", x.groupInfo(1, 2), -17);
        checks.due("lay() again: not added to", x.lay(), 3);
        checks.due("clearText()", x.clearText(), 15);
        checks.due("points() after clearText", x.points(), 3);
        checks.due("lay() of no text", x.lay(), 0);
        checks.due("points()", x.points(), 0);
        checks.due("groups()", x.groups(), 0);
        checks.due("undo()", x.undo(), 5);
        checks.due("points()", x.points(), 3);
    }

    private void layingTwelve() {
        checks.sentence(6, "There are at most 12 points");
        ShapeFits x = Checks.values(1, 2, 3, 4, 5, 6, 7, 8, 9, 10, 11, 12);
        Checks.write(x, TWELVE);
        checks.due("lay() with 12 points", x.lay(), 12);
        checks.due("groups()", x.groups(), 1);
        checks.due("add to 12", x.add(0, 0, 1), LIMIT);
        Checks.write(x, TWELVE + "2:2;");
        checks.due("lay() of 13", x.lay(), NOT_POSSIBLE);
        checks.due("points()", x.points(), 12);
        checks.due("undo()", x.undo(), 5);
        checks.due("groups()", x.groups(), 12);
    }

    private void layingIsRefused() {
        checks.sentence(6, "NOT_POSSIBLE if the text has a fault");
        ShapeFits x = Checks.with(5, 6, 2);
        Checks.write(x, "1:1;2:2;3:3");
        checks.due("lay()", x.lay(), NOT_POSSIBLE);
        checks.due("points()", x.points(), 1);
        checks.due("position", x.pointInfo(0, 0), 5);
        checks.due("value", x.pointInfo(0, 1), 6);
        checks.due("groups()", x.groups(), 1);
        x.type(';');
        checks.due("lay() when the fault is mended", x.lay(), 3);
        checks.due("undo(): the refused one is not recorded", x.undo(), 1);
        checks.due("points()", x.points(), 1);
        checks.due("clearText()", x.clearText(), 12);
    }
}
