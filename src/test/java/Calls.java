/** The methods of the face by their place in the document, from 0 for add: names, ranges, calls. */
final class Calls {
    static final String[] NAMES = {"add", "remove", "setPoint", "mirror", "lay", "undo",
        "points", "pointInfo", "groups", "groupInfo", "fit", "error", "turn", "turnError", "blocks",
        "blockInfo", "kinks", "kinkAt", "gap", "levelError", "levelBegin", "levels", "penaltyFor",
        "type", "clearText", "fault", "reason"};
    static final int ADD = 0;
    static final int REMOVE = 1;
    static final int SET_POINT = 2;
    static final int MIRROR = 3;
    static final int LAY = 4;
    static final int UNDO = 5;
    static final int POINTS = 6;
    static final int POINT_INFO = 7;
    static final int GROUPS = 8;
    static final int GROUP_INFO = 9;
    static final int FIT = 10;
    static final int ERROR = 11;
    static final int TURN = 12;
    static final int TURN_ERROR = 13;
    static final int BLOCKS = 14;
    static final int BLOCK_INFO = 15;
    static final int KINKS = 16;
    static final int KINK_AT = 17;
    static final int GAP = 18;
    static final int LEVEL_ERROR = 19;
    static final int LEVEL_BEGIN = 20;
    static final int LEVELS = 21;
    static final int PENALTY_FOR = 22;
    static final int TYPE = 23;
    static final int CLEAR_TEXT = 24;
    static final int FAULT = 25;
    static final int REASON = 26;

    private static final int[] ARGUMENTS = {3, 1, 3, 1, 0, 0, 0, 2, 0, 2, 3, 2, 1, 3, 1, 3, 1, 2, 1,
        2, 2, 2, 2, 1, 0, 0, 1};

    private Calls() {
    }

    static int promise(int method) {
        return method + 2;
    }

    static int arguments(int method) {
        return ARGUMENTS[method];
    }

    static String text(int method, int... arguments) {
        StringBuilder text = new StringBuilder(NAMES[method]).append('(');
        for (int i = 0; i < ARGUMENTS[method]; i++) {
            text.append(i == 0 ? "" : ", ").append(arguments[i]);
        }
        return text.append(')').toString();
    }

    static long answer(ShapeFits x, int method, int a, int b, int c) {
        switch (method) {
            case ADD: return x.add(a, b, c);
            case REMOVE: return x.remove(a);
            case SET_POINT: return x.setPoint(a, b, c);
            case MIRROR: return x.mirror(a);
            case LAY: return x.lay();
            case UNDO: return x.undo();
            case POINTS: return x.points();
            case POINT_INFO: return x.pointInfo(a, b);
            case GROUPS: return x.groups();
            case GROUP_INFO: return x.groupInfo(a, b);
            case FIT: return x.fit(a, b, c);
            case ERROR: return x.error(a, b);
            case TURN: return x.turn(a);
            case TURN_ERROR: return x.turnError(a, b, c);
            case BLOCKS: return x.blocks(a);
            case BLOCK_INFO: return x.blockInfo(a, b, c);
            case KINKS: return x.kinks(a);
            case KINK_AT: return x.kinkAt(a, b);
            case GAP: return x.gap(a);
            case LEVEL_ERROR: return x.levelError(a, b);
            case LEVEL_BEGIN: return x.levelBegin(a, b);
            case LEVELS: return x.levels(a, b);
            case PENALTY_FOR: return x.penaltyFor(a, b);
            case TYPE: return x.type(a);
            case CLEAR_TEXT: return x.clearText();
            case FAULT: return x.fault();
            default: return x.reason(a);
        }
    }

    /**
     * The least and the greatest value of an argument (the greatest is less if there is none), for
     * so many points and groups, and for the value of the method's first argument.
     */
    static int[] range(int method, int argument, int points, int groups, int first) {
        int[] what = {0, 1};
        int[] value = argument == 1 ? new int[] {-99, 99} : new int[] {1, 2};
        switch (method) {
            case ADD: return argument == 0 ? new int[] {0, 40} : value;
            case REMOVE: return new int[] {0, points - 1};
            case SET_POINT: return argument == 0 ? new int[] {0, points - 1} : value;
            case POINT_INFO: return new int[] {0, argument == 0 ? points - 1 : 3};
            case GROUP_INFO: return new int[] {0, argument == 0 ? groups - 1 : 3};
            case FIT: return argument == 2 ? what : new int[] {0, argument == 0 ? 5 : groups - 1};
            case ERROR: return argument == 1 ? what : new int[] {0, 3};
            case TURN: return new int[] {2, 3};
            case TURN_ERROR:
                return argument == 2 ? what
                        : argument == 0 ? new int[] {2, 3} : new int[] {0, groups - 1};
            case BLOCKS: return new int[] {0, 3};
            case BLOCK_INFO: return new int[] {0, argument == 1 ? Integer.MAX_VALUE : 3};
            case KINKS: return new int[] {4, 5};
            case KINK_AT:
                return argument == 0 ? new int[] {4, 5} : new int[] {0, Integer.MAX_VALUE};
            case GAP: return new int[] {0, 2};
            case LEVEL_ERROR:
            case PENALTY_FOR: return argument == 1 ? what : new int[] {1, 12};
            case LEVEL_BEGIN: return argument == 1 ? new int[] {0, first - 1} : new int[] {1, 12};
            case LEVELS: return argument == 0 ? new int[] {0, 1000000} : new int[] {1, 100};
            case TYPE: return new int[] {32, 126};
            case REASON: return new int[] {0, Integer.MAX_VALUE};
            default: return what;
        }
    }
}
