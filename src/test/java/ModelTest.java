/** All promises: runs of 512 calls on new objects, each answer compared with the Model's. */
public final class ModelTest {
    private static final int RUNS = 160;
    private static final int CALLS = 512;
    private static final String[] NAMES = {"add", "remove", "setPoint", "mirror", "lay", "undo",
        "points", "pointInfo", "groups", "groupInfo", "fit", "error", "turn", "turnError", "blocks",
        "blockInfo", "kinks", "kinkAt", "gap", "levelError", "levelBegin", "levels", "penaltyFor",
        "type", "clearText", "fault", "reason"};
    private static final int LAY = 4;
    private static final int TYPE = 23;
    private static final int CLEAR_TEXT = 24;
    private static final int FAULT = 25;
    private static final int[] EXTREMES = {Integer.MIN_VALUE, -1000, -1, 13, 41, 127, 1000001,
        Integer.MAX_VALUE};

    private final Checks checks;
    private final int run;
    private final ShapeFits real = new ShapeFits();
    private final Model model = new Model();
    private final int positionSpread;
    private final int valueSpread;
    private long seed;
    private int calls;

    private ModelTest(Checks checks, int run) {
        this.checks = checks;
        this.run = run;
        seed = run * 7919L + 1;
        int[] positions = {41, 41, 13, 8, 3};
        int[] values = {199, 21, 7, 3};
        positionSpread = positions[below(positions.length)];
        valueSpread = values[below(values.length)];
    }

    public static void main(String[] args) {
        Checks checks = new Checks("ModelTest");
        for (int run = 0; run < RUNS; run++) {
            new ModelTest(checks, run).play();
        }
        checks.finish();
    }

    private void play() {
        int first = below(13);
        for (int i = 0; i < first; i++) {
            call(0, position(), value(), 1 + below(2));
        }
        while (calls < CALLS) {
            step();
        }
    }

    private void step() {
        int choice = below(100);
        if (choice < 3) {
            writePoints(below(14));
        } else if (choice < 6) {
            writeNearlyPoint();
        } else if (choice < 11) {
            call(0, position(), value(), 1 + below(2));
        } else if (choice < 17) {
            changePoint();
        } else if (choice < 21) {
            call(1 + below(NAMES.length - 1), any(), any(), any());
        } else {
            ask();
        }
    }

    private void changePoint() {
        switch (below(6)) {
            case 0:
                call(1, below(12), 0, 0);
                break;
            case 1:
                call(3, below(2), 0, 0);
                break;
            case 2:
                call(5, 0, 0, 0);
                break;
            default:
                call(2, below(12), value(), 1 + below(2));
        }
    }

    private void ask() {
        int method = 6 + below(TYPE - 6);
        switch (NAMES[method]) {
            case "fit":
                call(method, below(6), below(12), below(2));
                break;
            case "error":
            case "blocks":
            case "blockInfo":
                call(method, below(4), below(NAMES[method].equals("error") ? 2 : 8), below(4));
                break;
            case "turn":
            case "turnError":
                call(method, 2 + below(2), below(12), below(2));
                break;
            case "kinks":
            case "kinkAt":
                call(method, 4 + below(2), below(6), 0);
                break;
            case "levelError":
            case "penaltyFor":
                call(method, 1 + below(12), below(2), 0);
                break;
            case "levelBegin":
                int k = 1 + below(12);
                call(method, k, below(k), 0);
                break;
            case "levels":
                int most = below(2) == 0 ? 200 : 20000;
                call(method, below(most), 1 + below(100), 0);
                break;
            default:
                call(method, below(12), below(4), 0);
        }
    }

    private void writePoints(int number) {
        call(CLEAR_TEXT, 0, 0, 0);
        StringBuilder text = new StringBuilder();
        for (int i = 0; i < number; i++) {
            text.append(position()).append(':').append(value());
            text.append(new String[] {"", "*1", "*2"}[below(3)]).append(';');
        }
        if (below(4) == 0 && text.length() > 0) {
            text.setCharAt(below(text.length()), "0159-*:;x "
                    .charAt(below(10)));
        }
        write(text);
        call(below(3) == 0 ? FAULT : LAY, 0, 0, 0);
        askReasons();
    }

    private void writeNearlyPoint() {
        call(CLEAR_TEXT, 0, 0, 0);
        StringBuilder text = new StringBuilder();
        if (below(2) == 0) {
            text.append("1:2;");
        }
        String[] parts = {"4", "0", "41", "1", "9", ":", ":", "-", "*", "*", ";", ";", "2", "x"};
        int length = below(9);
        for (int i = 0; i < length; i++) {
            text.append(parts[below(parts.length)]);
        }
        if (below(2) == 0) {
            text.append(new String[] {"3:4*", "3:-", "3:4*1", "3:55"}[below(4)]);
            text.append(parts[below(parts.length)]);
        }
        write(text);
        call(below(3) == 0 ? LAY : FAULT, 0, 0, 0);
        askReasons();
    }

    private void write(CharSequence text) {
        for (int i = 0; i < text.length(); i++) {
            call(TYPE, text.charAt(i), 0, 0);
        }
    }

    private void askReasons() {
        for (int index = 0; index < 4; index++) {
            call(26, index, 0, 0);
        }
    }

    private int position() {
        return below(positionSpread) * (positionSpread > 13 ? 1 : 3);
    }

    private int value() {
        return below(valueSpread) - valueSpread / 2;
    }

    private int any() {
        return below(4) == 0 ? EXTREMES[below(EXTREMES.length)] : below(13) - 1;
    }

    private int below(int bound) {
        seed = seed * 6364136223846793005L + 1442695040888963407L;
        return (int) Math.floorMod(seed >>> 33, (long) bound);
    }

    private void call(int method, int a, int b, int c) {
        if (calls >= CALLS) {
            return;
        }
        calls++;
        long got = answer(method, a, b, c);
        long want = model.answer(method, a, b, c);
        checks.due(method + 2, "run " + run + ", call " + calls + ": " + NAMES[method] + "(" + a
                + ", " + b + ", " + c + ")", got, want);
    }

    private long answer(int method, int a, int b, int c) {
        switch (method) {
            case 0: return real.add(a, b, c);
            case 1: return real.remove(a);
            case 2: return real.setPoint(a, b, c);
            case 3: return real.mirror(a);
            case 4: return real.lay();
            case 5: return real.undo();
            case 6: return real.points();
            case 7: return real.pointInfo(a, b);
            case 8: return real.groups();
            case 9: return real.groupInfo(a, b);
            case 10: return real.fit(a, b, c);
            case 11: return real.error(a, b);
            case 12: return real.turn(a);
            case 13: return real.turnError(a, b, c);
            case 14: return real.blocks(a);
            case 15: return real.blockInfo(a, b, c);
            case 16: return real.kinks(a);
            case 17: return real.kinkAt(a, b);
            case 18: return real.gap(a);
            case 19: return real.levelError(a, b);
            case 20: return real.levelBegin(a, b);
            case 21: return real.levels(a, b);
            case 22: return real.penaltyFor(a, b);
            case 23: return real.type(a);
            case 24: return real.clearText();
            case 25: return real.fault();
            default: return real.reason(a);
        }
    }
}
