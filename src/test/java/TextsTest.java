/** Promises 6 and 25 to 28: the text, its fault, and the chain of reasons. */
public final class TextsTest {
    private static final int INVALID = -1000001;
    private static final int NOT_POSSIBLE = -1000002;
    private static final int LIMIT = -1000003;
    private static final int NOT_FOUND = -1000004;

    private static final Checks CHECKS = new Checks("TextsTest");

    public static void main(String[] args) {
        typing();
        clearing();
        goodTexts();
        positions();
        values();
        weights();
        separators();
        behindTheTwelfth();
        behindTheEndOfTheText();
        fullText();
        chainOfTheLatestCall();
        CHECKS.finish();
    }

    private static void due(int promise, String call, long got, long want) {
        CHECKS.due(promise, call, got, want);
    }

    /** Checks the fault of a text and its chain, for fault and for lay. */
    private static void dueFault(String text, int place, int... chain) {
        ShapeFits x = new ShapeFits();
        Checks.write(x, text);
        due(27, "fault() of " + text, x.fault(), place);
        dueChain(x, text, chain);
        ShapeFits y = new ShapeFits();
        Checks.write(y, text);
        due(6, "lay() of " + text, y.lay(), NOT_POSSIBLE);
        dueChain(y, text, chain);
    }

    private static void dueChain(ShapeFits x, String text, int... chain) {
        for (int index = 0; index < chain.length; index++) {
            due(28, "reason(" + index + ") of " + text, x.reason(index), chain[index]);
        }
        due(28, "reason behind the chain of " + text, x.reason(chain.length), NOT_FOUND);
    }

    private static void typing() {
        ShapeFits x = new ShapeFits();
        due(25, "type(31)", x.type(31), INVALID);
        due(25, "type(127)", x.type(127), INVALID);
        due(25, "type(-1)", x.type(-1), INVALID);
        due(25, "type(65585)", x.type(65536 + 49), INVALID);
        due(25, "type(32)", x.type(32), 1);
        due(25, "type(126)", x.type(126), 2);
        for (int length = 3; length <= 90; length++) {
            due(25, "type(49)", x.type(49), length);
        }
        due(25, "the 91st type", x.type(49), LIMIT);
        due(25, "a wrong 91st type", x.type(127), INVALID);
        due(26, "clearText()", x.clearText(), 90);
        due(25, "type(49)", x.type(49), 1);
    }

    private static void clearing() {
        ShapeFits x = new ShapeFits();
        due(26, "clearText()", x.clearText(), 0);
        Checks.write(x, "1:2");
        due(26, "clearText()", x.clearText(), 3);
        due(26, "clearText()", x.clearText(), 0);
        due(27, "fault()", x.fault(), NOT_FOUND);
        Checks.write(x, "3:4;");
        due(26, "text after clearText", x.lay(), 1);
        due(26, "pointInfo(0, 0)", x.pointInfo(0, 0), 3);
    }

    private static void goodTexts() {
        String[] texts = {"", "0:0;", "40:-99*2;", "00:00*1;", "07:-07;", "1:-0;9:9*2;1:1;",
            "1:1;1:1;1:1;1:1;1:1;1:1;1:1;1:1;1:1;1:1;1:1;1:1;"};
        int[] points = {0, 1, 1, 1, 1, 3, 12};
        for (int i = 0; i < texts.length; i++) {
            ShapeFits x = new ShapeFits();
            Checks.write(x, texts[i]);
            due(27, "fault() of " + texts[i], x.fault(), NOT_FOUND);
            dueChain(x, texts[i]);
            due(6, "lay() of " + texts[i], x.lay(), points[i]);
        }
    }

    private static void positions() {
        dueFault("x", 0, 10, 1, 6);
        dueFault(":1;", 0, 10, 1, 6);
        dueFault("-1:1;", 0, 10, 1, 6);
        dueFault("1:1; 2:2;", 4, 11, 1, 6);
        dueFault("1:1;2:2;;", 8, 12, 1, 6);
        dueFault("41:1;", 0, 10, 1, 7);
        dueFault("99x", 0, 10, 1, 7);
        dueFault("411", 0, 10, 1, 7);
        dueFault("1:1;41", 4, 11, 1, 7);
    }

    private static void values() {
        dueFault("1:;", 0, 10, 2, 6);
        dueFault("1:", 0, 10, 2, 6);
        dueFault("1:-;", 0, 10, 2, 6);
        dueFault("1:--1;", 0, 10, 2, 6);
        dueFault("1:+1;", 0, 10, 2, 6);
        dueFault("1:-", 0, 10, 2, 6);
        dueFault("10:-99*2;1:*", 9, 11, 2, 6);
    }

    private static void weights() {
        dueFault("1:1*;", 0, 10, 3, 6);
        dueFault("1:1*", 0, 10, 3, 6);
        dueFault("1:1*-1;", 0, 10, 3, 6);
        dueFault("1:1*0;", 0, 10, 3, 7);
        dueFault("1:1*3;", 0, 10, 3, 7);
        dueFault("1:1*9x", 0, 10, 3, 7);
        dueFault("1:1*02;", 0, 10, 3, 7);
        dueFault("1:1*1;1:1*2;1:1*3;", 12, 12, 3, 7);
    }

    private static void separators() {
        dueFault("1", 0, 10, 4);
        dueFault("12", 0, 10, 4);
        dueFault("123:1;", 0, 10, 4);
        dueFault("1;1;", 0, 10, 4);
        dueFault("1 :1;", 0, 10, 4);
        dueFault("1:1", 0, 10, 4);
        dueFault("1:100;", 0, 10, 4);
        dueFault("1:1:", 0, 10, 4);
        dueFault("1:1*1", 0, 10, 4);
        dueFault("1:1*12;", 0, 10, 4);
        dueFault("1:1*1*1;", 0, 10, 4);
        dueFault("1:1;2:2;3:3,", 8, 12, 4);
    }

    private static void behindTheTwelfth() {
        String twelve = "1:1;1:1;1:1;1:1;1:1;1:1;1:1;1:1;1:1;1:1;1:1;1:1;";
        dueFault(twelve + "1:1;", 48, 22, 5);
        dueFault(twelve + " ", 48, 22, 5);
        dueFault(twelve + "99", 48, 22, 5);
        dueFault(twelve.substring(0, 47), 44, 21, 4);
        dueFault(twelve.substring(0, 44) + "1:1*3;1", 44, 21, 3, 7);
    }

    private static void behindTheEndOfTheText() {
        ShapeFits x = new ShapeFits();
        Checks.write(x, "1:2*1;3:4;");
        Checks.write(x, "1:2");
        due(27, "fault() before a cleared *", x.fault(), 0);
        Checks.write(x, "1:2*1");
        due(27, "fault() before a cleared ;", x.fault(), 0);
        Checks.write(x, "1");
        x.fault();
        dueChain(x, "1", 10, 4);
        Checks.write(x, "1:");
        x.fault();
        dueChain(x, "1:", 10, 2, 6);
        Checks.write(x, "1:2*");
        x.fault();
        dueChain(x, "1:2*", 10, 3, 6);
    }

    private static void fullText() {
        StringBuilder text = new StringBuilder();
        for (int point = 0; point < 10; point++) {
            text.append("10:-99*2;");
        }
        ShapeFits x = new ShapeFits();
        Checks.write(x, text.toString());
        due(27, "fault() of 90 characters", x.fault(), NOT_FOUND);
        due(6, "lay() of 90 characters", x.lay(), 10);
        due(6, "groupInfo(0, 2)", x.groupInfo(0, 2), -1980);
        dueFault(text.substring(0, 81) + "10:-99*22", 81, 19, 4);
        dueFault(text.substring(0, 81) + "010:-99*2", 81, 19, 4);
        dueFault(text.substring(0, 81) + "1:-99*2;5", 89, 20, 4);
    }

    private static void chainOfTheLatestCall() {
        ShapeFits x = new ShapeFits();
        due(28, "reason(-1)", x.reason(-1), INVALID);
        due(28, "reason(most)", x.reason(Integer.MAX_VALUE), NOT_FOUND);
        Checks.write(x, "1:1*3");
        due(28, "reason(0) before fault", x.reason(0), NOT_FOUND);
        x.fault();
        dueChain(x, "1:1*3", 10, 3, 7);
        due(28, "reason(-1)", x.reason(-1), INVALID);
        Checks.write(x, "1:1;2");
        dueChain(x, "the text before", 10, 3, 7);
        x.lay();
        dueChain(x, "1:1;2", 11, 4);
        Checks.write(x, "1:1;");
        due(27, "fault()", x.fault(), NOT_FOUND);
        dueChain(x, "1:1;");
        Checks.write(x, "x");
        x.fault();
        Checks.write(x, "1:1;");
        due(6, "lay()", x.lay(), 1);
        dueChain(x, "1:1;");
    }
}
