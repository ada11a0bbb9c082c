/** All promises: runs of 512 calls on new objects, each answer compared with the Model's. */
public final class ModelTest {
    private static final int RUNS = 160;
    private static final int CALLS = 512;
    private static final int[] EXTREMES = {Integer.MIN_VALUE, -1000, -1, 13, 41, 127, 1000001,
        Integer.MAX_VALUE};

    private final Checks checks;
    private final int run;
    private final ShapeFits real = new ShapeFits();
    private final Model model = new Model();
    private final int positionSpread;
    private final int valueSpread;
    private long seed;
    private int calls;

    private ModelTest(Checks checks, int run) {
        this.checks = checks;
        this.run = run;
        seed = run * 7919L + 1;
        int[] positions = {41, 41, 13, 8, 3};
        int[] values = {199, 21, 7, 3};
        positionSpread = positions[below(positions.length)];
        valueSpread = values[below(values.length)];
    }

    public static void main(String[] args) {
        Checks checks = new Checks("ModelTest");
        for (int run = 0; run < RUNS; run++) {
            new ModelTest(checks, run).play();
        }
        checks.finish();
    }

    private void play() {
        int first = below(13);
        for (int i = 0; i < first; i++) {
            call(Calls.ADD, position(), value(), 1 + below(2));
        }
        while (calls < CALLS) {
            step();
        }
    }

    private void step() {
        int choice = below(100);
        if (choice < 3) {
            writePoints(below(14));
        } else if (choice < 6) {
            writeNearlyPoint();
        } else if (choice < 11) {
            call(Calls.ADD, position(), value(), 1 + below(2));
        } else if (choice < 17) {
            changePoint();
        } else if (choice < 21) {
            call(below(Calls.NAMES.length), any(), any(), any());
        } else {
            ask();
        }
    }

    private void changePoint() {
        switch (below(6)) {
            case 0:
                call(Calls.REMOVE, below(12), 0, 0);
                break;
            case 1:
                call(Calls.MIRROR, below(2), 0, 0);
                break;
            case 2:
                call(Calls.UNDO, 0, 0, 0);
                break;
            default:
                call(Calls.SET_POINT, below(12), value(), 1 + below(2));
        }
    }

    private void ask() {
        int method = Calls.POINTS + below(Calls.TYPE - Calls.POINTS);
        switch (method) {
            case Calls.FIT:
                call(method, below(6), below(12), below(2));
                break;
            case Calls.ERROR:
                call(method, below(4), below(2), 0);
                break;
            case Calls.BLOCKS:
            case Calls.BLOCK_INFO:
                call(method, below(4), below(8), below(4));
                break;
            case Calls.TURN:
            case Calls.TURN_ERROR:
                call(method, 2 + below(2), below(12), below(2));
                break;
            case Calls.KINKS:
            case Calls.KINK_AT:
                call(method, 4 + below(2), below(6), 0);
                break;
            case Calls.LEVEL_ERROR:
                call(method, 1 + below(12), below(2), 0);
                break;
            case Calls.LEVEL_BEGIN:
                int k = 1 + below(12);
                call(method, k, below(k), 0);
                break;
            case Calls.LEVELS:
                int most = below(2) == 0 ? 200 : 20000;
                call(method, below(most), 1 + below(100), 0);
                break;
            case Calls.PENALTY_FOR:
                askPenalty(1 + below(12));
                break;
            default:
                call(method, below(12), below(4), 0);
        }
    }

    /** Asks for a penalty and then for the levels at it, where two costs are the same. */
    private void askPenalty(int most) {
        long numerator = call(Calls.PENALTY_FOR, most, 0, 0);
        long denominator = call(Calls.PENALTY_FOR, most, 1, 0);
        if (numerator >= 0 && numerator <= 1000000 && denominator <= 100) {
            call(Calls.LEVELS, (int) numerator, (int) denominator, 0);
        }
    }

    private void writePoints(int number) {
        call(Calls.CLEAR_TEXT, 0, 0, 0);
        StringBuilder text = new StringBuilder();
        for (int i = 0; i < number; i++) {
            text.append(position()).append(':').append(value());
            text.append(new String[] {"", "*1", "*2"}[below(3)]).append(';');
        }
        if (below(4) == 0 && text.length() > 0) {
            text.setCharAt(below(text.length()), "0159-*:;x "
                    .charAt(below(10)));
        }
        write(text);
        call(below(3) == 0 ? Calls.FAULT : Calls.LAY, 0, 0, 0);
        askReasons();
    }

    private void writeNearlyPoint() {
        call(Calls.CLEAR_TEXT, 0, 0, 0);
        StringBuilder text = new StringBuilder();
        if (below(2) == 0) {
            text.append("1:2;");
        }
        String[] parts = {"4", "0", "41", "1", "9", ":", ":", "-", "*", "*", ";", ";", "2", "x"};
        int length = below(9);
        for (int i = 0; i < length; i++) {
            text.append(parts[below(parts.length)]);
        }
        if (below(2) == 0) {
            text.append(new String[] {"3:4*", "3:-", "3:4*1", "3:55"}[below(4)]);
            text.append(parts[below(parts.length)]);
        }
        write(text);
        call(below(3) == 0 ? Calls.LAY : Calls.FAULT, 0, 0, 0);
        askReasons();
    }

    private void write(CharSequence text) {
        for (int i = 0; i < text.length(); i++) {
            call(Calls.TYPE, text.charAt(i), 0, 0);
        }
    }

    private void askReasons() {
        for (int index = 0; index < 4; index++) {
            call(Calls.REASON, index, 0, 0);
        }
    }

    private int position() {
        return below(positionSpread) * (positionSpread > 13 ? 1 : 3);
    }

    private int value() {
        return below(valueSpread) - valueSpread / 2;
    }

    private int any() {
        return below(4) == 0 ? EXTREMES[below(EXTREMES.length)] : below(13) - 1;
    }

    private int below(int bound) {
        seed = seed * 6364136223846793005L + 1442695040888963407L;
        return (int) Math.floorMod(seed >>> 33, (long) bound);
    }

    /** Answers what is due; 0 when the object has had all its calls. */
    private long call(int method, int a, int b, int c) {
        if (calls >= CALLS) {
            return 0;
        }
        calls++;
        long got = Calls.answer(real, method, a, b, c);
        long want = model.answer(method, a, b, c);
        checks.due(Calls.promise(method),
                "run " + run + ", call " + calls + ": " + Calls.text(method, a, b, c), got, want);
        return want;
    }
}
