import java.util.ArrayList;
import java.util.List;
import java.util.regex.Matcher;
import java.util.regex.Pattern;

/** A second ShapeFits, slow and plain, that the first one's answers are compared with. */
final class Model {
    private static final int INVALID = -1000001;
    private static final int NOT_POSSIBLE = -1000002;
    private static final int LIMIT = -1000003;
    private static final int NOT_FOUND = -1000004;

    private static final Pattern POINT =
            Pattern.compile("([0-3]?[0-9]|40):(-?[0-9]{1,2})(?:\\*([12]))?;");

    private List<int[]> points = new ArrayList<>();
    private final List<List<int[]>> history = new ArrayList<>();
    private final StringBuilder text = new StringBuilder();
    private List<Integer> chain = List.of();
    private Shapes shapes;

    long answer(int method, int a, int b, int c) {
        switch (method) {
            case Calls.ADD: return add(a, b, c);
            case Calls.REMOVE: return remove(a);
            case Calls.SET_POINT: return setPoint(a, b, c);
            case Calls.MIRROR: return mirror(a);
            case Calls.LAY: return lay();
            case Calls.UNDO: return undo();
            case Calls.POINTS: return points.size();
            case Calls.POINT_INFO: return pointInfo(a, b);
            case Calls.GROUPS: return shapes().size;
            case Calls.GROUP_INFO: return groupInfo(a, b);
            case Calls.FIT: return fit(a, b, c);
            case Calls.ERROR: return error(a, b);
            case Calls.TURN: return turn(a);
            case Calls.TURN_ERROR: return turnError(a, b, c);
            case Calls.BLOCKS: return a < 0 || a > 3 ? INVALID : blockBegins(a).size();
            case Calls.BLOCK_INFO: return blockInfo(a, b, c);
            case Calls.KINKS: return a < 4 || a > 5 ? INVALID : shapes().kinks(a).size();
            case Calls.KINK_AT: return kinkAt(a, b);
            case Calls.GAP: return gap(a);
            case Calls.LEVEL_ERROR: return levelError(a, b);
            case Calls.LEVEL_BEGIN: return levelBegin(a, b);
            case Calls.LEVELS: return levels(a, b);
            case Calls.PENALTY_FOR: return penaltyFor(a, b);
            case Calls.TYPE: return type(a);
            case Calls.CLEAR_TEXT: return clearText();
            case Calls.FAULT: return fault();
            default: return reason(a);
        }
    }

    private Shapes shapes() {
        if (shapes == null) {
            shapes = new Shapes(points);
        }
        return shapes;
    }

    private void change(List<int[]> after) {
        history.add(points);
        if (history.size() > 6) {
            history.remove(0);
        }
        points = after;
        shapes = null;
    }

    private List<int[]> copy() {
        List<int[]> copies = new ArrayList<>();
        for (int[] point : points) {
            copies.add(point.clone());
        }
        return copies;
    }

    private static boolean wrong(int value, int weight) {
        return value < -99 || value > 99 || weight < 1 || weight > 2;
    }

    private boolean noPoint(int point) {
        return point < 0 || point >= points.size();
    }

    private boolean noGroup(int group) {
        return group < 0 || group >= shapes().size;
    }

    private int add(int position, int value, int weight) {
        if (position < 0 || position > 40 || wrong(value, weight)) {
            return INVALID;
        }
        if (points.size() == 12) {
            return LIMIT;
        }
        List<int[]> after = copy();
        after.add(new int[] {position, value, weight});
        change(after);
        return points.size() - 1;
    }

    private int remove(int point) {
        if (noPoint(point)) {
            return INVALID;
        }
        List<int[]> after = copy();
        after.remove(point);
        change(after);
        return points.size();
    }

    private int setPoint(int point, int value, int weight) {
        if (noPoint(point) || wrong(value, weight)) {
            return INVALID;
        }
        int[] before = points.get(point);
        List<int[]> after = copy();
        after.set(point, new int[] {before[0], value, weight});
        change(after);
        return 10 * before[1] + before[2];
    }

    private int mirror(int what) {
        if (what < 0 || what > 1) {
            return INVALID;
        }
        List<int[]> after = copy();
        for (int[] point : after) {
            point[what] = what == 0 ? 40 - point[0] : -point[1];
        }
        change(after);
        return points.size();
    }

    private int lay() {
        if (fault() != NOT_FOUND) {
            return NOT_POSSIBLE;
        }
        List<int[]> after = new ArrayList<>();
        Matcher matcher = POINT.matcher(text);
        while (matcher.find()) {
            String weight = matcher.group(3);
            after.add(new int[] {Integer.parseInt(matcher.group(1)),
                Integer.parseInt(matcher.group(2)), weight == null ? 1 : Integer.parseInt(weight)});
        }
        change(after);
        return points.size();
    }

    private int undo() {
        if (history.isEmpty()) {
            return NOT_POSSIBLE;
        }
        points = history.remove(history.size() - 1);
        shapes = null;
        return history.size();
    }

    private int pointInfo(int point, int what) {
        if (noPoint(point) || what < 0 || what > 3) {
            return INVALID;
        }
        int[] numbers = points.get(point);
        return what == 3 ? shapes().positions.indexOf(numbers[0]) : numbers[what];
    }

    private int groupInfo(int group, int what) {
        if (noGroup(group) || what < 0 || what > 3) {
            return INVALID;
        }
        return what == 0 ? shapes().positions.get(group) : shapes().sums.get(group)[what - 1];
    }

    private long fit(int kind, int group, int what) {
        if (kind < 0 || kind > 5 || noGroup(group) || what < 0 || what > 1) {
            return INVALID;
        }
        Ratio number = kind < 4 ? shapes().fit(kind).numbers().get(group)
                : shapes().hull(kind, group);
        return number.part(what);
    }

    private long error(int kind, int what) {
        if (kind < 0 || kind > 3 || what < 0 || what > 1) {
            return INVALID;
        }
        return points.isEmpty() ? NOT_POSSIBLE : shapes().fit(kind).error().part(what);
    }

    private int turn(int kind) {
        if (kind < 2 || kind > 3) {
            return INVALID;
        }
        return points.isEmpty() ? NOT_POSSIBLE : shapes().turn(kind);
    }

    private long turnError(int kind, int group, int what) {
        if (kind < 2 || kind > 3 || noGroup(group) || what < 0 || what > 1) {
            return INVALID;
        }
        return shapes().withTurn(kind, group).error().part(what);
    }

    private List<Integer> blockBegins(int kind) {
        return points.isEmpty() ? List.of() : shapes().blockBegins(kind);
    }

    private int blockInfo(int kind, int block, int what) {
        if (kind < 0 || kind > 3 || block < 0 || what < 0 || what > 3) {
            return INVALID;
        }
        List<Integer> begins = blockBegins(kind);
        if (block >= begins.size()) {
            return NOT_FOUND;
        }
        int first = begins.get(block);
        int end = block + 1 < begins.size() ? begins.get(block + 1) : shapes().size;
        if (what < 2) {
            return what == 0 ? first : end - 1;
        }
        int sum = 0;
        for (int group = first; group < end; group++) {
            sum += shapes().sums.get(group)[what - 2];
        }
        return sum;
    }

    private int kinkAt(int kind, int index) {
        if (kind < 4 || kind > 5 || index < 0) {
            return INVALID;
        }
        List<Integer> kinks = shapes().kinks(kind);
        return index < kinks.size() ? kinks.get(index) : NOT_FOUND;
    }

    private long gap(int what) {
        if (what < 0 || what > 2) {
            return INVALID;
        }
        if (points.isEmpty()) {
            return NOT_POSSIBLE;
        }
        int group = shapes().gapGroup();
        return what == 2 ? group : shapes().gapAt(group).part(what);
    }

    private long levelError(int k, int what) {
        if (k < 1 || k > 12 || what < 0 || what > 1) {
            return INVALID;
        }
        return k > shapes().size ? NOT_FOUND : shapes().divisions[k].error().part(what);
    }

    private int levelBegin(int k, int level) {
        if (k < 1 || k > 12 || level < 0 || level >= k) {
            return INVALID;
        }
        return k > shapes().size ? NOT_FOUND : shapes().divisions[k].begins().get(level);
    }

    private int levels(int numerator, int denominator) {
        if (numerator < 0 || numerator > 1000000 || denominator < 1 || denominator > 100) {
            return INVALID;
        }
        return points.isEmpty() ? NOT_POSSIBLE
                : shapes().levels(Ratio.of(numerator, denominator));
    }

    private long penaltyFor(int most, int what) {
        if (most < 1 || most > 12 || what < 0 || what > 1) {
            return INVALID;
        }
        return points.isEmpty() ? NOT_POSSIBLE : shapes().penaltyFor(most).part(what);
    }

    private int type(int character) {
        if (character < 32 || character > 126) {
            return INVALID;
        }
        if (text.length() == 90) {
            return LIMIT;
        }
        text.append((char) character);
        return text.length();
    }

    private int clearText() {
        int length = text.length();
        text.setLength(0);
        return length;
    }

    private int fault() {
        String rest = text.toString();
        int good = 0;
        for (Matcher point = POINT.matcher(rest); good < 12 && point.lookingAt();) {
            good++;
            rest = rest.substring(point.end());
            point = POINT.matcher(rest);
        }
        if (rest.isEmpty()) {
            chain = List.of();
            return NOT_FOUND;
        }
        chain = new ArrayList<>(List.of(10 + good));
        chain.addAll(good == 12 ? List.of(5) : why(rest));
        return text.length() - rest.length();
    }

    /** The further reasons for a text that begins with a wrong point. */
    private static List<Integer> why(String rest) {
        if (!rest.matches("[0-9].*")) {
            return List.of(1, 6);
        }
        if (rest.matches("(4[1-9]|[5-9][0-9]).*")) {
            return List.of(1, 7);
        }
        if (!rest.matches("[0-9]{1,2}:.*")) {
            return List.of(4);
        }
        if (!rest.matches("[0-9]{1,2}:-?[0-9].*")) {
            return List.of(2, 6);
        }
        if (rest.matches("[0-9]{1,2}:-?[0-9]{1,2}\\*([^0-9].*)?")) {
            return List.of(3, 6);
        }
        if (rest.matches("[0-9]{1,2}:-?[0-9]{1,2}\\*[03-9].*")) {
            return List.of(3, 7);
        }
        return List.of(4);
    }

    private int reason(int index) {
        if (index < 0) {
            return INVALID;
        }
        return index < chain.size() ? chain.get(index) : NOT_FOUND;
    }
}
