import java.util.ArrayList;
import java.util.List;

/**
 * All promises: calls that are refused, each in several states. Every argument is tried at the ends
 * of its range and outside of it, and what a refused call may have changed is looked for by
 * comparing the object with a twin that had no such call.
 */
public final class RefusalsTest {
    private static final int INVALID = -1000001;
    private static final int NOT_POSSIBLE = -1000002;
    private static final int LIMIT = -1000003;
    private static final int NOT_FOUND = -1000004;

    private static final int NEW = 0;
    private static final int SOME = 1;
    private static final int FULL = 2;
    private static final int EMPTIED = 3;
    private static final int STATES = 4;
    private static final String[] STATE_NAMES = {"of a new object", "with 3 points",
        "with all full", "when all points are removed"};

    private static final Checks CHECKS = new Checks("RefusalsTest");

    public static void main(String[] args) {
        for (int state = 0; state < STATES; state++) {
            for (int method = 0; method < Calls.NAMES.length; method++) {
                endsOfRanges(state, method);
                for (int wrong = 0; wrong < Calls.arguments(method); wrong++) {
                    outsideOfRange(state, method, wrong);
                }
            }
        }
        notPossible();
        limits();
        notFound();
        faultsAndLays();
        questionsChangeNothing();
        CHECKS.finish();
    }

    /** The states: see STATE_NAMES. At most some 110 calls are used. */
    private static ShapeFits make(int state) {
        ShapeFits x = new ShapeFits();
        switch (state) {
            case SOME:
                x.add(3, 10, 1);
                x.add(3, -5, 2);
                x.add(9, 4, 1);
                Checks.write(x, "1:1;2");
                x.fault();
                break;
            case FULL:
                for (int i = 0; i < 12; i++) {
                    x.add(36 - 3 * i, i * i - 50, 1 + i % 2);
                }
                x.type('x');
                x.lay();
                Checks.write(x, "40:-99*2;".repeat(10));
                break;
            case EMPTIED:
                x.add(7, 7, 1);
                x.remove(0);
                Checks.write(x, "5:-5*2;");
                break;
            default:
                break;
        }
        return x;
    }

    /** What can be seen of an object, the history and the text (which are used up by this). */
    private static List<Long> look(ShapeFits x) {
        List<Long> seen = new ArrayList<>();
        for (int index = 0; index < 4; index++) {
            seen.add((long) x.reason(index));
        }
        for (int kind = 0; kind < 4; kind++) {
            seen.add(x.error(kind, 0));
        }
        seen.add(x.gap(2));
        seen.add((long) x.levels(1, 1));
        lookAtPoints(x, seen);
        while (seen.get(seen.size() - 1) != NOT_POSSIBLE) {
            lookAtPoints(x, seen);
            seen.add((long) x.undo());
        }
        seen.add((long) x.lay());
        lookAtPoints(x, seen);
        seen.add((long) x.clearText());
        return seen;
    }

    private static void lookAtPoints(ShapeFits x, List<Long> seen) {
        seen.add((long) x.groups());
        for (int point = 0; point < x.points(); point++) {
            seen.add((long) x.pointInfo(point, 0));
            seen.add(1000L * x.pointInfo(point, 1) + x.pointInfo(point, 2));
        }
    }

    private static void dueNothingChanged(String call, ShapeFits x, ShapeFits twin) {
        CHECKS.due(call + ": nothing is changed", look(x).equals(look(twin)) ? 1 : 0, 1);
    }

    /** No choice of least and greatest arguments, as far as there are any, is out of range. */
    private static void endsOfRanges(int state, int method) {
        CHECKS.sentence(Calls.promise(method), "INVALID_ARGUMENT: An argument is out of its range");
        for (int ends = 0; ends < 1 << Calls.arguments(method); ends++) {
            ShapeFits x = make(state);
            int[] arguments = arguments(x, method, ends);
            boolean none = false;
            for (int i = 0; i < Calls.arguments(method); i++) {
                int[] range = range(x, method, i, arguments[0]);
                none |= range[1] < range[0];
            }
            long got = Calls.answer(x, method, arguments[0], arguments[1], arguments[2]);
            CHECKS.due(Calls.text(method, arguments) + " is refused as invalid, "
                    + STATE_NAMES[state], got == INVALID ? 1 : 0, none ? 1 : 0);
        }
    }

    private static void outsideOfRange(int state, int method, int wrong) {
        CHECKS.sentence(Calls.promise(method), "INVALID_ARGUMENT if an argument is out of range");
        ShapeFits x = make(state);
        for (int ends = 0; ends < 1 << Calls.arguments(method); ends++) {
            int[] arguments = arguments(x, method, ends);
            for (int value : outside(range(x, method, wrong, arguments[0]))) {
                arguments[wrong] = value;
                long got = Calls.answer(x, method, arguments[0], arguments[1], arguments[2]);
                CHECKS.due(Calls.text(method, arguments) + " " + STATE_NAMES[state], got, INVALID);
            }
        }
        dueNothingChanged(Calls.NAMES[method] + " refused, argument " + wrong + " "
                + STATE_NAMES[state], x, make(state));
    }

    /** The least value of an argument, or the greatest one where the bit of ends is set. */
    private static int[] arguments(ShapeFits x, int method, int ends) {
        int[] arguments = new int[3];
        for (int i = 0; i < Calls.arguments(method); i++) {
            arguments[i] = Math.max(-99, range(x, method, i, arguments[0])[ends >> i & 1]);
        }
        return arguments;
    }

    private static int[] range(ShapeFits x, int method, int argument, int first) {
        return Calls.range(method, argument, x.points(), x.groups(), first);
    }

    /** Values outside of a range, also some that are inside if only their lowest bits count. */
    private static List<Integer> outside(int[] range) {
        int[] tries = {Integer.MIN_VALUE, range[0] - 1, range[0] - 256, range[0] - 65536,
            range[0] + 256, range[0] + 65536, range[1] + 1, Integer.MAX_VALUE};
        List<Integer> outside = new ArrayList<>();
        for (int value : tries) {
            if (value < range[0] || value > range[1]) {
                outside.add(value);
            }
        }
        return outside;
    }

    /** Asks a question that is refused, and looks for changes. */
    private static void dueRefused(int state, int due, int method, int... given) {
        int[] arguments = {0, 0, 0};
        System.arraycopy(given, 0, arguments, 0, given.length);
        String call = Calls.text(method, arguments) + " " + STATE_NAMES[state];
        ShapeFits x = make(state);
        CHECKS.due(call, Calls.answer(x, method, arguments[0], arguments[1], arguments[2]), due);
        CHECKS.due(call + " again",
                Calls.answer(x, method, arguments[0], arguments[1], arguments[2]), due);
        dueNothingChanged(call, x, make(state));
    }

    private static void sentence(int method, String words) {
        CHECKS.sentence(Calls.promise(method), words);
    }

    private static void notPossible() {
        sentence(Calls.UNDO, "NOT_POSSIBLE if it is empty");
        dueRefused(NEW, NOT_POSSIBLE, Calls.UNDO);
        for (int state : new int[] {NEW, EMPTIED}) {
            for (int what = 0; what < 2; what++) {
                for (int kind = 0; kind < 4; kind++) {
                    sentence(Calls.ERROR, "NOT_POSSIBLE if there are no points");
                    dueRefused(state, NOT_POSSIBLE, Calls.ERROR, kind, what);
                }
                sentence(Calls.PENALTY_FOR, "NOT_POSSIBLE if there are no points");
                dueRefused(state, NOT_POSSIBLE, Calls.PENALTY_FOR, 1, what);
                dueRefused(state, NOT_POSSIBLE, Calls.PENALTY_FOR, 12, what);
            }
            sentence(Calls.TURN, "NOT_POSSIBLE if there are no points");
            dueRefused(state, NOT_POSSIBLE, Calls.TURN, 2);
            dueRefused(state, NOT_POSSIBLE, Calls.TURN, 3);
            sentence(Calls.GAP, "NOT_POSSIBLE if there are no points");
            for (int what = 0; what < 3; what++) {
                dueRefused(state, NOT_POSSIBLE, Calls.GAP, what);
            }
            sentence(Calls.LEVELS, "NOT_POSSIBLE if there are no points");
            dueRefused(state, NOT_POSSIBLE, Calls.LEVELS, 0, 1);
            dueRefused(state, NOT_POSSIBLE, Calls.LEVELS, 1000000, 100);
        }
    }

    private static void limits() {
        sentence(Calls.ADD, "LIMIT_REACHED if there are 12 points");
        dueRefused(FULL, LIMIT, Calls.ADD, 0, 0, 1);
        dueRefused(FULL, LIMIT, Calls.ADD, 3, 99, 2);
        dueRefused(FULL, LIMIT, Calls.ADD, 40, -99, 2);
        sentence(Calls.TYPE, "LIMIT_REACHED if it has 90 characters");
        for (int character = 32; character <= 126; character++) {
            dueRefused(FULL, LIMIT, Calls.TYPE, character);
        }
    }

    private static void notFound() {
        for (int state = 0; state < STATES; state++) {
            ShapeFits x = make(state);
            for (int kind = 0; kind < 4; kind++) {
                sentence(Calls.BLOCK_INFO, "NOT_FOUND if there are not so many blocks");
                dueRefused(state, NOT_FOUND, Calls.BLOCK_INFO, kind, x.blocks(kind), 0);
                dueRefused(state, NOT_FOUND, Calls.BLOCK_INFO, kind, Integer.MAX_VALUE, 3);
            }
            for (int kind = 4; kind < 6; kind++) {
                sentence(Calls.KINK_AT, "NOT_FOUND if there are not so many kinks");
                dueRefused(state, NOT_FOUND, Calls.KINK_AT, kind, x.kinks(kind));
                dueRefused(state, NOT_FOUND, Calls.KINK_AT, kind, Integer.MAX_VALUE);
            }
            for (int k = x.groups() + 1; k <= 12; k++) {
                sentence(Calls.LEVEL_ERROR, "NOT_FOUND if there are fewer than k groups");
                dueRefused(state, NOT_FOUND, Calls.LEVEL_ERROR, k, 0);
                dueRefused(state, NOT_FOUND, Calls.LEVEL_ERROR, k, 1);
                sentence(Calls.LEVEL_BEGIN, "NOT_FOUND if there are fewer than k groups");
                dueRefused(state, NOT_FOUND, Calls.LEVEL_BEGIN, k, 0);
                dueRefused(state, NOT_FOUND, Calls.LEVEL_BEGIN, k, k - 1);
            }
            sentence(Calls.REASON, "NOT_FOUND if there are not so many");
            dueRefused(state, NOT_FOUND, Calls.REASON, state == SOME ? 2 : state == FULL ? 3 : 0);
            dueRefused(state, NOT_FOUND, Calls.REASON, Integer.MAX_VALUE);
        }
    }

    /** The calls that are refused and make a new chain: the twin has it from the other of them. */
    private static void faultsAndLays() {
        sentence(Calls.LAY, "NOT_POSSIBLE if the text has a fault");
        ShapeFits x = make(SOME);
        CHECKS.due("lay()", x.lay(), NOT_POSSIBLE);
        CHECKS.due("lay() again", x.lay(), NOT_POSSIBLE);
        ShapeFits twin = make(SOME);
        twin.fault();
        dueNothingChanged("lay() refused", x, twin);
        sentence(Calls.FAULT, "NOT_FOUND if it has none (also if it is empty)");
        dueRefused(NEW, NOT_FOUND, Calls.FAULT);
        dueRefused(EMPTIED, NOT_FOUND, Calls.FAULT);
        ShapeFits full = make(FULL);
        CHECKS.due("fault()", full.fault(), NOT_FOUND);
        CHECKS.due("fault() again", full.fault(), NOT_FOUND);
        ShapeFits laid = make(FULL);
        laid.lay();
        laid.undo();
        CHECKS.due("reason(0) after fault()", full.reason(0), laid.reason(0));
        CHECKS.due("groups() after fault()", full.groups(), laid.groups());
    }

    private static void questionsChangeNothing() {
        for (int state = 0; state < STATES; state++) {
            for (int method = Calls.POINTS; method <= Calls.REASON; method++) {
                if (method < Calls.TYPE || method == Calls.REASON) {
                    sentence(method, "Not promised: state changes that are not described");
                    ShapeFits x = make(state);
                    for (int ends = 0; ends < 1 << Calls.arguments(method); ends++) {
                        int[] with = arguments(x, method, ends);
                        Calls.answer(x, method, with[0], with[1], with[2]);
                    }
                    dueNothingChanged(Calls.NAMES[method] + " " + STATE_NAMES[state], x,
                            make(state));
                }
            }
        }
    }
}
