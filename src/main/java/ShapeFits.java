/**
 * Fits of a required shape to weighted points that are grouped by their positions.
 *
 * All answers are exact. Nothing is kept between calls but the points, their groups, the history,
 * the text and its reasons: a fit is made anew by each call that asks for it, in rows that the
 * constructor made, so that no call makes an object.
 */
public final class ShapeFits {
    public static final int INVALID_ARGUMENT = -1000001;
    public static final int NOT_POSSIBLE = -1000002;
    public static final int LIMIT_REACHED = -1000003;
    public static final int NOT_FOUND = -1000004;

    private static final int MOST_POINTS = 12;
    private static final int MOST_POSITION = 40;
    private static final int MOST_VALUE = 99;
    private static final int MOST_WEIGHT = 2;
    private static final int MOST_STATES = 6;
    private static final int MOST_SIGNS = 90;
    private static final int MOST_REASONS = 3;
    private static final int MOST_PENALTY_NUMERATOR = 1000000;
    private static final int MOST_PENALTY_DENOMINATOR = 100;
    private static final int FIRST_SIGN = 32;
    private static final int LAST_SIGN = 126;

    private static final int RISING = 0;
    private static final int PEAK = 2;
    private static final int VALLEY = 3;
    private static final int MINORANT = 4;
    private static final int MAJORANT = 5;

    private static final int NUMERATOR = 0;
    private static final int DENOMINATOR = 1;

    private static final int NONE = -1;

    /**
     * The least common multiple of 1 to 24. Twelve points weigh 24 at most, so the weight of any
     * groups divides it, and errors can be kept as whole multiples of 1 / COMMON (below 2 to the
     * power of 51).
     */
    private static final long COMMON = 5354228880L;

    /** Far above the steps that Euclid's algorithm takes for two longs. */
    private static final int MOST_DIVISIONS = 1000;

    private final PointRow row;
    private final PointText text;
    private final History history;
    private final GroupTable table;
    private final BlockFit blockFit;
    private final Hull minorant;
    private final Hull majorant;
    private final LevelTable levelTable;

    public ShapeFits() {
        row = new PointRow();
        text = new PointText();
        history = new History();
        table = new GroupTable();
        blockFit = new BlockFit(table);
        minorant = new Hull(table, 1);
        majorant = new Hull(table, -1);
        levelTable = new LevelTable(table);
    }

    // ---- points

    public int add(int position, int value, int weight) {
        if (outside(position, 0, MOST_POSITION) || wrongValueOrWeight(value, weight)) {
            return INVALID_ARGUMENT;
        }
        if (row.size() >= MOST_POINTS) {
            return LIMIT_REACHED;
        }
        history.record(row);
        row.append(position, value, weight);
        table.gather(row);
        return row.size() - 1;
    }

    public int remove(int point) {
        if (!row.has(point)) {
            return INVALID_ARGUMENT;
        }
        history.record(row);
        row.drop(point);
        table.gather(row);
        return row.size();
    }

    public int setPoint(int point, int value, int weight) {
        if (!row.has(point) || wrongValueOrWeight(value, weight)) {
            return INVALID_ARGUMENT;
        }
        int previous = 10 * row.valueOf(point) + row.weightOf(point);
        history.record(row);
        row.change(point, value, weight);
        table.gather(row);
        return previous;
    }

    public int mirror(int what) {
        if (outside(what, 0, 1)) {
            return INVALID_ARGUMENT;
        }
        history.record(row);
        if (what == 0) {
            row.mirrorPositions();
        } else {
            row.mirrorValues();
        }
        table.gather(row);
        return row.size();
    }

    public int lay() {
        if (text.examine() != NONE) {
            return NOT_POSSIBLE;
        }
        history.record(row);
        text.copyPointsTo(row);
        table.gather(row);
        return row.size();
    }

    public int undo() {
        if (history.size() == 0) {
            return NOT_POSSIBLE;
        }
        history.restore(row);
        table.gather(row);
        return history.size();
    }

    public int points() {
        return row.size();
    }

    public int pointInfo(int point, int what) {
        if (!row.has(point) || outside(what, 0, 3)) {
            return INVALID_ARGUMENT;
        }
        switch (what) {
            case 0:
                return row.positionOf(point);
            case 1:
                return row.valueOf(point);
            case 2:
                return row.weightOf(point);
            default:
                return table.groupAt(row.positionOf(point));
        }
    }

    public int groups() {
        return table.size();
    }

    public int groupInfo(int group, int what) {
        if (!table.has(group) || outside(what, 0, 3)) {
            return INVALID_ARGUMENT;
        }
        switch (what) {
            case 0:
                return table.positionOf(group);
            case 1:
                return table.weightOf(group, group);
            case 2:
                return table.momentOf(group, group);
            default:
                return table.membersOf(group);
        }
    }

    // ---- fits

    public long fit(int kind, int group, int what) {
        if (outside(kind, RISING, MAJORANT) || !table.has(group) || notFractionPart(what)) {
            return INVALID_ARGUMENT;
        }
        if (kind >= MINORANT) {
            Hull hull = hullOf(kind);
            hull.draw();
            return lowest(hull.numeratorAt(group), hull.denominatorAt(group), what);
        }
        blockFit.shape(kind);
        int block = blockFit.blockWith(group);
        int first = blockFit.firstOf(block);
        int last = blockFit.lastOf(block);
        return lowest(table.momentOf(first, last), table.weightOf(first, last), what);
    }

    public long error(int kind, int what) {
        if (outside(kind, RISING, VALLEY) || notFractionPart(what)) {
            return INVALID_ARGUMENT;
        }
        if (table.size() == 0) {
            return NOT_POSSIBLE;
        }
        blockFit.shape(kind);
        return lowest(blockFit.commonError(), COMMON, what);
    }

    public int turn(int kind) {
        if (outside(kind, PEAK, VALLEY)) {
            return INVALID_ARGUMENT;
        }
        if (table.size() == 0) {
            return NOT_POSSIBLE;
        }
        return blockFit.bestTurn(kind);
    }

    public long turnError(int kind, int group, int what) {
        if (outside(kind, PEAK, VALLEY) || !table.has(group) || notFractionPart(what)) {
            return INVALID_ARGUMENT;
        }
        blockFit.shapeWithTurn(kind, group);
        return lowest(blockFit.commonError(), COMMON, what);
    }

    public int blocks(int kind) {
        if (outside(kind, RISING, VALLEY)) {
            return INVALID_ARGUMENT;
        }
        blockFit.shape(kind);
        return blockFit.size();
    }

    public int blockInfo(int kind, int block, int what) {
        if (outside(kind, RISING, VALLEY) || block < 0 || outside(what, 0, 3)) {
            return INVALID_ARGUMENT;
        }
        blockFit.shape(kind);
        if (block >= blockFit.size()) {
            return NOT_FOUND;
        }
        int first = blockFit.firstOf(block);
        int last = blockFit.lastOf(block);
        switch (what) {
            case 0:
                return first;
            case 1:
                return last;
            case 2:
                return table.weightOf(first, last);
            default:
                return table.momentOf(first, last);
        }
    }

    public int kinks(int kind) {
        if (outside(kind, MINORANT, MAJORANT)) {
            return INVALID_ARGUMENT;
        }
        Hull hull = hullOf(kind);
        hull.draw();
        return hull.innerCorners();
    }

    public int kinkAt(int kind, int index) {
        if (outside(kind, MINORANT, MAJORANT) || index < 0) {
            return INVALID_ARGUMENT;
        }
        Hull hull = hullOf(kind);
        hull.draw();
        if (index >= hull.innerCorners()) {
            return NOT_FOUND;
        }
        return hull.innerCorner(index);
    }

    public long gap(int what) {
        if (outside(what, 0, 2)) {
            return INVALID_ARGUMENT;
        }
        if (table.size() == 0) {
            return NOT_POSSIBLE;
        }
        minorant.draw();
        majorant.draw();
        int group = widestGap();
        if (what == 2) {
            return group;
        }
        return lowest(gapNumerator(group), gapDenominator(group), what);
    }

    // ---- levels

    public long levelError(int k, int what) {
        if (outside(k, 1, MOST_POINTS) || notFractionPart(what)) {
            return INVALID_ARGUMENT;
        }
        if (k > table.size()) {
            return NOT_FOUND;
        }
        levelTable.divide(k);
        return lowest(levelTable.commonError(k), COMMON, what);
    }

    public int levelBegin(int k, int level) {
        if (outside(k, 1, MOST_POINTS) || outside(level, 0, k - 1)) {
            return INVALID_ARGUMENT;
        }
        if (k > table.size()) {
            return NOT_FOUND;
        }
        levelTable.divide(k);
        return levelTable.beginOf(k, level);
    }

    public int levels(int numerator, int denominator) {
        if (outside(numerator, 0, MOST_PENALTY_NUMERATOR)
                || outside(denominator, 1, MOST_PENALTY_DENOMINATOR)) {
            return INVALID_ARGUMENT;
        }
        if (table.size() == 0) {
            return NOT_POSSIBLE;
        }
        levelTable.divide(table.size());
        return levelTable.cheapest(numerator, denominator);
    }

    public long penaltyFor(int most, int what) {
        if (outside(most, 1, MOST_POINTS) || notFractionPart(what)) {
            return INVALID_ARGUMENT;
        }
        if (table.size() == 0) {
            return NOT_POSSIBLE;
        }
        if (most >= table.size()) {
            return lowest(0, 1, what);
        }
        levelTable.divide(table.size());
        int fewer = levelTable.firstToPrevail(most);
        int more = levelTable.lastToYield(fewer, most);
        return lowest(levelTable.errorDrop(fewer, more), COMMON * (more - fewer), what);
    }

    // ---- texts

    public int type(int character) {
        if (outside(character, FIRST_SIGN, LAST_SIGN)) {
            return INVALID_ARGUMENT;
        }
        if (text.size() >= MOST_SIGNS) {
            return LIMIT_REACHED;
        }
        text.append((char) character);
        return text.size();
    }

    public int clearText() {
        int length = text.size();
        text.empty();
        return length;
    }

    public int fault() {
        int place = text.examine();
        return place == NONE ? NOT_FOUND : place;
    }

    public int reason(int index) {
        if (index < 0) {
            return INVALID_ARGUMENT;
        }
        if (index >= text.reasons()) {
            return NOT_FOUND;
        }
        return text.reasonAt(index);
    }

    // ---- helpers of the face

    private static boolean outside(int number, int least, int most) {
        return number < least || number > most;
    }

    private static boolean wrongValueOrWeight(int value, int weight) {
        return outside(value, -MOST_VALUE, MOST_VALUE) || outside(weight, 1, MOST_WEIGHT);
    }

    private static boolean notFractionPart(int what) {
        return outside(what, NUMERATOR, DENOMINATOR);
    }

    private Hull hullOf(int kind) {
        return kind == MINORANT ? minorant : majorant;
    }

    /** The lowest of the groups with the greatest gap, of the two hulls as they are drawn. */
    private int widestGap() {
        int widest = 0;
        for (int group = 1; group < table.size(); group++) {
            long here = gapNumerator(group) * gapDenominator(widest);
            long there = gapNumerator(widest) * gapDenominator(group);
            if (here > there) {
                widest = group;
            }
        }
        return widest;
    }

    private long gapNumerator(int group) {
        return majorant.numeratorAt(group) * minorant.denominatorAt(group)
                - minorant.numeratorAt(group) * majorant.denominatorAt(group);
    }

    private long gapDenominator(int group) {
        return majorant.denominatorAt(group) * minorant.denominatorAt(group);
    }

    /** The numerator or denominator of a fraction in lowest terms; the denominator is above 0. */
    private static long lowest(long numerator, long denominator, int what) {
        long part = what == NUMERATOR ? numerator : denominator;
        long divisor = greatestDivisor(Math.abs(numerator), denominator);
        return divisor == 0 ? part : part / divisor;
    }

    private static long greatestDivisor(long one, long other) {
        long greater = one;
        long less = other;
        for (int step = 0; step < MOST_DIVISIONS && less != 0; step++) {
            long rest = greater % less;
            greater = less;
            less = rest;
        }
        return greater;
    }

    /** Points in the order of their numbers. */
    private static final class PointRow {
        private final int[] position = new int[MOST_POINTS];
        private final int[] value = new int[MOST_POINTS];
        private final int[] weight = new int[MOST_POINTS];
        private int count;

        int size() {
            return count;
        }

        boolean has(int point) {
            return point >= 0 && point < count;
        }

        int positionOf(int point) {
            return has(point) ? position[point] : 0;
        }

        int valueOf(int point) {
            return has(point) ? value[point] : 0;
        }

        int weightOf(int point) {
            return has(point) ? weight[point] : 0;
        }

        /** The least position greater than the given one; NONE if there is none. */
        int positionBehind(int place) {
            int nearest = NONE;
            for (int point = 0; point < count; point++) {
                int other = position[point];
                if (other > place && (nearest == NONE || other < nearest)) {
                    nearest = other;
                }
            }
            return nearest;
        }

        void empty() {
            count = 0;
        }

        void append(int newPosition, int newValue, int newWeight) {
            if (count >= MOST_POINTS) {
                return;
            }
            position[count] = newPosition;
            value[count] = newValue;
            weight[count] = newWeight;
            count++;
        }

        void drop(int point) {
            if (!has(point)) {
                return;
            }
            for (int later = point + 1; later < count; later++) {
                position[later - 1] = position[later];
                value[later - 1] = value[later];
                weight[later - 1] = weight[later];
            }
            count--;
        }

        void change(int point, int newValue, int newWeight) {
            if (!has(point)) {
                return;
            }
            value[point] = newValue;
            weight[point] = newWeight;
        }

        void mirrorPositions() {
            for (int point = 0; point < count; point++) {
                position[point] = MOST_POSITION - position[point];
            }
        }

        void mirrorValues() {
            for (int point = 0; point < count; point++) {
                value[point] = -value[point];
            }
        }

        void copyTo(PointRow other) {
            if (other == null) {
                return;
            }
            other.empty();
            for (int point = 0; point < count; point++) {
                other.append(position[point], value[point], weight[point]);
            }
        }
    }

    /** The points as they were before the latest changes, the oldest state first. */
    private static final class History {
        private final PointRow[] states = new PointRow[MOST_STATES];
        private int count;

        History() {
            for (int state = 0; state < MOST_STATES; state++) {
                states[state] = new PointRow();
            }
        }

        int size() {
            return count;
        }

        void record(PointRow present) {
            if (count >= MOST_STATES) {
                forgetOldest();
            }
            present.copyTo(states[count]);
            count++;
        }

        void restore(PointRow present) {
            if (count <= 0) {
                return;
            }
            count--;
            PointRow latest = states[count];
            if (latest != null) {
                latest.copyTo(present);
            }
        }

        /** Puts the row of the oldest state behind the others, where it is used again. */
        private void forgetOldest() {
            PointRow oldest = states[0];
            for (int state = 1; state < MOST_STATES; state++) {
                states[state - 1] = states[state];
            }
            states[MOST_STATES - 1] = oldest;
            count = MOST_STATES - 1;
        }
    }

    /** The groups of the present points by ascending positions, and sums over successive groups. */
    private static final class GroupTable {
        private final int[] position = new int[MOST_POINTS];
        private final int[] members = new int[MOST_POINTS];
        /** Sums over the groups before a group, so that one difference sums any sequence. */
        private final int[] weightBefore = new int[MOST_POINTS + 1];
        private final int[] momentBefore = new int[MOST_POINTS + 1];
        private int count;
        private int squares;

        int size() {
            return count;
        }

        boolean has(int group) {
            return group >= 0 && group < count;
        }

        void gather(PointRow points) {
            count = 0;
            squares = 0;
            int place = points.positionBehind(NONE);
            for (int group = 0; group < MOST_POINTS && place != NONE; group++) {
                gatherGroup(points, place);
                place = points.positionBehind(place);
            }
        }

        private void gatherGroup(PointRow points, int place) {
            if (count >= MOST_POINTS) {
                return;
            }
            int weight = weightBefore[count];
            int moment = momentBefore[count];
            int found = 0;
            for (int point = 0; point < points.size(); point++) {
                if (points.positionOf(point) == place) {
                    int value = points.valueOf(point);
                    weight += points.weightOf(point);
                    moment += points.weightOf(point) * value;
                    squares += points.weightOf(point) * value * value;
                    found++;
                }
            }
            position[count] = place;
            members[count] = found;
            weightBefore[count + 1] = weight;
            momentBefore[count + 1] = moment;
            count++;
        }

        int positionOf(int group) {
            return has(group) ? position[group] : 0;
        }

        int membersOf(int group) {
            return has(group) ? members[group] : 0;
        }

        /** The group with a position; NONE if no point has it. */
        int groupAt(int place) {
            for (int group = 0; group < count; group++) {
                if (position[group] == place) {
                    return group;
                }
            }
            return NONE;
        }

        int weightOf(int first, int last) {
            if (first < 0 || last < first || last >= count) {
                return 0;
            }
            return weightBefore[last + 1] - weightBefore[first];
        }

        int momentOf(int first, int last) {
            if (first < 0 || last < first || last >= count) {
                return 0;
            }
            return momentBefore[last + 1] - momentBefore[first];
        }

        /** Above, at or below 0 as the mean of the one sequence is above, at or below the other's. */
        int compareMeans(int first, int last, int otherFirst, int otherLast) {
            return momentOf(first, last) * weightOf(otherFirst, otherLast)
                    - momentOf(otherFirst, otherLast) * weightOf(first, last);
        }

        /** By how much the error falls if a sequence gets its mean instead of 0, in 1 / COMMON. */
        long gainOf(int first, int last) {
            long weight = weightOf(first, last);
            long moment = momentOf(first, last);
            return weight <= 0 ? 0 : moment * moment * (COMMON / weight);
        }

        /** The error of the fit that gives 0 to every group, in 1 / COMMON. */
        long errorOfZero() {
            return COMMON * squares;
        }
    }

    /** The blocks of a fit of the kinds 0 to 3. */
    private static final class BlockFit {
        private final GroupTable table;
        private final int[] begin = new int[MOST_POINTS];
        private int count;
        private int topFirst;
        private int topLast;

        BlockFit(GroupTable groupTable) {
            table = groupTable;
        }

        int size() {
            return count;
        }

        int firstOf(int block) {
            return block >= 0 && block < count ? begin[block] : NONE;
        }

        int lastOf(int block) {
            return block >= 0 && block < count - 1 ? begin[block + 1] - 1 : table.size() - 1;
        }

        int blockWith(int group) {
            int found = 0;
            for (int block = 1; block < count; block++) {
                if (begin[block] <= group) {
                    found = block;
                }
            }
            return found;
        }

        /** The error of the fit, in 1 / COMMON. */
        long commonError() {
            long sum = table.errorOfZero();
            for (int block = 0; block < count; block++) {
                sum -= table.gainOf(firstOf(block), lastOf(block));
            }
            return sum;
        }

        void shape(int kind) {
            if (kind >= PEAK && table.size() > 0) {
                shapeWithTurn(kind, bestTurn(kind));
                return;
            }
            count = 0;
            pool(0, table.size() - 1, kind == RISING ? 1 : -1);
        }

        int bestTurn(int kind) {
            int best = 0;
            long least = 0;
            for (int group = 0; group < table.size(); group++) {
                shapeWithTurn(kind, group);
                long here = commonError();
                if (group == 0 || here < least) {
                    best = group;
                    least = here;
                }
            }
            return best;
        }

        void shapeWithTurn(int kind, int group) {
            int side = kind == PEAK ? 1 : -1;
            findTop(group, side);
            count = 0;
            pool(0, topFirst - 1, side);
            open(topFirst);
            pool(topLast + 1, table.size() - 1, -side);
        }

        /**
         * Finds the block of the turn. The number at a peak is the greatest mean of all sequences
         * around the turn, and the union of two such sequences with this mean has it too: so the
         * block is the longest of them, and what is left and right of it is fitted on its own.
         */
        private void findTop(int group, int side) {
            topFirst = group;
            topLast = group;
            for (int first = group; first >= 0; first--) {
                for (int last = group; last < table.size(); last++) {
                    // Of equal means the latest counts: the union of all of them is met last.
                    if (side * table.compareMeans(first, last, topFirst, topLast) >= 0) {
                        topFirst = first;
                        topLast = last;
                    }
                }
            }
        }

        /** Appends the blocks of the groups first to last, rising for the side 1, falling for -1. */
        private void pool(int first, int last, int side) {
            int base = count;
            for (int group = first; group <= last; group++) {
                int start = group;
                for (int block = count - 1; block >= base; block--) {
                    // Equal means are pooled too: a block is a longest sequence.
                    if (side * table.compareMeans(begin[block], start - 1, start, group) < 0) {
                        break;
                    }
                    start = begin[block];
                    count = block;
                }
                open(start);
            }
        }

        private void open(int group) {
            if (count < MOST_POINTS) {
                begin[count] = group;
                count++;
            }
        }
    }

    /** The corners of the minorant (side 1) or the majorant (side -1): first, last and all kinks. */
    private static final class Hull {
        private final GroupTable table;
        private final int side;
        private final int[] corner = new int[MOST_POINTS];
        private int count;

        Hull(GroupTable groupTable, int hullSide) {
            table = groupTable;
            side = hullSide;
        }

        void draw() {
            count = 0;
            for (int group = 0; group < table.size() && count < MOST_POINTS; group++) {
                for (int last = count - 1; last > 0; last--) {
                    if (bends(corner[last - 1], corner[last], group)) {
                        break;
                    }
                    count = last;
                }
                corner[count] = group;
                count++;
            }
        }

        int innerCorners() {
            return Math.max(0, count - 2);
        }

        int innerCorner(int index) {
            return index >= 0 && index < innerCorners() ? corner[index + 1] : NONE;
        }

        /** Whether the slope from left to middle is less (greater for the majorant) than behind. */
        private boolean bends(int left, int middle, int right) {
            long before = rise(left, middle) * weight(right) * distance(middle, right);
            long behind = rise(middle, right) * weight(left) * distance(left, middle);
            return side * before < side * behind;
        }

        /** The difference of the means of two groups, times both weights. */
        private long rise(int left, int right) {
            return table.compareMeans(right, right, left, left);
        }

        private long weight(int group) {
            return table.weightOf(group, group);
        }

        private long moment(int group) {
            return table.momentOf(group, group);
        }

        private long distance(int left, int right) {
            return table.positionOf(right) - table.positionOf(left);
        }

        long numeratorAt(int group) {
            int left = cornerUpTo(group);
            int right = cornerFrom(group);
            if (left == right) {
                return moment(group);
            }
            return moment(left) * weight(right) * distance(group, right)
                    + moment(right) * weight(left) * distance(left, group);
        }

        long denominatorAt(int group) {
            int left = cornerUpTo(group);
            int right = cornerFrom(group);
            if (left == right) {
                return weight(group);
            }
            return weight(left) * weight(right) * distance(left, right);
        }

        private int cornerUpTo(int group) {
            int found = group;
            for (int index = 0; index < count; index++) {
                if (corner[index] <= group) {
                    found = corner[index];
                }
            }
            return found;
        }

        private int cornerFrom(int group) {
            int found = group;
            for (int index = count - 1; index >= 0; index--) {
                if (corner[index] >= group) {
                    found = corner[index];
                }
            }
            return found;
        }
    }

    /** The best divisions of the groups from any one to the last, into any number of levels. */
    private static final class LevelTable {
        private final GroupTable table;
        /** By the number of levels and the first group: the gain, and where the next level begins. */
        private final long[][] gain = new long[MOST_POINTS + 1][MOST_POINTS + 1];
        private final int[][] next = new int[MOST_POINTS + 1][MOST_POINTS + 1];

        LevelTable(GroupTable groupTable) {
            table = groupTable;
        }

        void divide(int most) {
            for (int k = 1; k <= most && k <= table.size(); k++) {
                for (int first = table.size() - k; first >= 0; first--) {
                    chooseFirstLevel(k, first);
                }
            }
        }

        private void chooseFirstLevel(int k, int first) {
            int groupsLeft = table.size() - (k - 1);
            int shortest = k == 1 ? groupsLeft - 1 : first;
            gain[k][first] = NONE;
            for (int last = shortest; last < groupsLeft; last++) {
                long sum = table.gainOf(first, last) + (k == 1 ? 0 : gain[k - 1][last + 1]);
                // Of equal ones the later counts, as the first level shall be the longest.
                if (sum >= gain[k][first]) {
                    gain[k][first] = sum;
                    next[k][first] = last + 1;
                }
            }
        }

        /** The error of the best division, in 1 / COMMON. */
        long commonError(int k) {
            if (k < 1 || k > table.size()) {
                return 0;
            }
            return table.errorOfZero() - gain[k][0];
        }

        int beginOf(int k, int level) {
            int group = 0;
            for (int step = 0; step < level && step < k && k <= table.size(); step++) {
                if (table.has(group)) {
                    group = next[k - step][group];
                }
            }
            return group;
        }

        int cheapest(int numerator, int denominator) {
            int best = 1;
            for (int k = 2; k <= table.size(); k++) {
                if (costOf(k, numerator, denominator) < costOf(best, numerator, denominator)) {
                    best = k;
                }
            }
            return best;
        }

        /** The cost for a penalty, in 1 / (COMMON * denominator); below 2 to the power of 58. */
        private long costOf(int k, int numerator, int denominator) {
            return commonError(k) * denominator + COMMON * numerator * k;
        }

        long errorDrop(int fewer, int more) {
            return commonError(fewer) - commonError(more);
        }

        /**
         * The number of levels, at most the given one, that the least penalty suffices for to cost
         * no more than any number of levels above the given one.
         */
        int firstToPrevail(int most) {
            int best = 1;
            for (int k = 2; k <= most; k++) {
                int rival = lastToYield(k, most);
                int bestRival = lastToYield(best, most);
                if (comparePenalties(k, rival, best, bestRival) < 0) {
                    best = k;
                }
            }
            return best;
        }

        /** The number of levels above most that needs the greatest penalty to cost no less. */
        int lastToYield(int fewer, int most) {
            int last = most + 1;
            for (int more = most + 2; more <= table.size(); more++) {
                if (comparePenalties(fewer, more, fewer, last) > 0) {
                    last = more;
                }
            }
            return last;
        }

        /** Compares the penalties at which the costs of two numbers of levels are the same. */
        private int comparePenalties(int fewer, int more, int otherFewer, int otherMore) {
            long one = errorDrop(fewer, more) * (otherMore - otherFewer);
            long other = errorDrop(otherFewer, otherMore) * (more - fewer);
            return Long.compare(one, other);
        }
    }

    /** The text, the points that the latest examination read, and its chain of reasons. */
    private static final class PointText {
        private static final int POSITION = 1;
        private static final int VALUE = 2;
        private static final int WEIGHT = 3;
        private static final int SEPARATOR = 4;
        private static final int BEHIND_LAST = 5;
        private static final int NO_DIGIT = 6;
        private static final int OUT_OF_RANGE = 7;

        private final char[] signs = new char[MOST_SIGNS];
        private final PointRow found = new PointRow();
        private final int[] chain = new int[MOST_REASONS];
        private int length;
        private int place;
        private int chainLength;

        int size() {
            return length;
        }

        void append(char sign) {
            if (length < MOST_SIGNS) {
                signs[length] = sign;
                length++;
            }
        }

        void empty() {
            length = 0;
        }

        int reasons() {
            return chainLength;
        }

        int reasonAt(int index) {
            return index >= 0 && index < chainLength ? chain[index] : NONE;
        }

        void copyPointsTo(PointRow points) {
            found.copyTo(points);
        }

        /** Reads the text, and answers the fault, or NONE. */
        int examine() {
            found.empty();
            chainLength = 0;
            place = 0;
            for (int point = 0; point < MOST_POINTS && place < length; point++) {
                int start = place;
                if (!readPoint()) {
                    return start;
                }
            }
            if (place < length) {
                refuse(BEHIND_LAST, NONE);
                return place;
            }
            return NONE;
        }

        private boolean readPoint() {
            int position = readNumber(2);
            if (position == NONE || position > MOST_POSITION) {
                return refuseNumber(POSITION, position);
            }
            if (!passes(':')) {
                return refuse(SEPARATOR, NONE);
            }
            boolean negative = passes('-');
            int value = readNumber(2);
            if (value == NONE) {
                return refuseNumber(VALUE, value);
            }
            int weight = 1;
            if (passes('*')) {
                weight = readNumber(1);
                if (weight < 1 || weight > MOST_WEIGHT) {
                    return refuseNumber(WEIGHT, weight);
                }
            }
            if (!passes(';')) {
                return refuse(SEPARATOR, NONE);
            }
            found.append(position, negative ? -value : value, weight);
            return true;
        }

        private boolean refuseNumber(int part, int number) {
            return refuse(part, number == NONE ? NO_DIGIT : OUT_OF_RANGE);
        }

        /** Sets the chain; it has no third reason if detail is NONE. Answers false always. */
        private boolean refuse(int part, int detail) {
            chain[0] = 10 + found.size();
            chain[1] = part;
            chain[2] = detail;
            chainLength = detail == NONE ? 2 : MOST_REASONS;
            return false;
        }

        /** Reads a number of at most so many digits; NONE if there is no digit. */
        private int readNumber(int mostDigits) {
            int number = NONE;
            for (int digits = 0; digits < mostDigits && digitAhead(); digits++) {
                number = Math.max(number, 0) * 10 + (signs[place] - '0');
                place++;
            }
            return number;
        }

        private boolean digitAhead() {
            return place >= 0 && place < length && signs[place] >= '0' && signs[place] <= '9';
        }

        private boolean passes(char sign) {
            if (place < 0 || place >= length || signs[place] != sign) {
                return false;
            }
            place++;
            return true;
        }
    }
}
