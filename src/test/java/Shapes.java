import java.util.ArrayList;
import java.util.List;
import java.util.TreeMap;

/**
 * All fits of some points, found without any cleverness: each way to divide the groups into
 * sequences is tried, with the mean of each sequence as its number. (A fit with the least error
 * has the mean of each of its blocks, so it is among these.)
 */
final class Shapes {
    final List<int[]> points;
    final List<Integer> positions = new ArrayList<>();
    final List<int[]> sums = new ArrayList<>();
    final int size;
    /** The best fits of the kinds 0 and 1, and for each turn those of the kinds 2 and 3. */
    private final Candidate[][] best = new Candidate[4][];
    /** The best divisions by the number of levels. */
    final Candidate[] divisions;

    /** A division into sequences with its fit. */
    record Candidate(List<Integer> begins, List<Ratio> numbers, Ratio error) {
    }

    /** A point is position, value, weight; a group's sums are weight, moment and members. */
    Shapes(List<int[]> points) {
        this.points = points;
        TreeMap<Integer, int[]> groups = new TreeMap<>();
        for (int[] point : points) {
            int[] sum = groups.computeIfAbsent(point[0], position -> new int[3]);
            sum[0] += point[2];
            sum[1] += point[2] * point[1];
            sum[2]++;
        }
        positions.addAll(groups.keySet());
        sums.addAll(groups.values());
        size = positions.size();
        divisions = new Candidate[size + 1];
        for (int kind = 0; kind < 4; kind++) {
            best[kind] = new Candidate[size];
        }
        for (int cuts = 0; size > 0 && cuts < 1 << (size - 1); cuts++) {
            consider(candidate(cuts));
        }
    }

    private Candidate candidate(int cuts) {
        List<Integer> begins = new ArrayList<>();
        List<Ratio> numbers = new ArrayList<>();
        for (int first = 0; first < size;) {
            int last = first;
            while (last + 1 < size && (cuts >> last & 1) == 0) {
                last++;
            }
            begins.add(first);
            Ratio mean = mean(first, last);
            for (int group = first; group <= last; group++) {
                numbers.add(mean);
            }
            first = last + 1;
        }
        return new Candidate(begins, numbers, error(numbers));
    }

    Ratio mean(int first, int last) {
        int weight = 0;
        int moment = 0;
        for (int group = first; group <= last; group++) {
            weight += sums.get(group)[0];
            moment += sums.get(group)[1];
        }
        return Ratio.of(moment, weight);
    }

    private Ratio error(List<Ratio> numbers) {
        Ratio sum = Ratio.ZERO;
        for (int[] point : points) {
            Ratio number = numbers.get(positions.indexOf(point[0]));
            Ratio difference = Ratio.of(point[1], 1).minus(number);
            sum = sum.plus(difference.times(difference).times(point[2]));
        }
        return sum;
    }

    private void consider(Candidate candidate) {
        for (int turn = 0; turn < size; turn++) {
            if (follows(candidate, size - 1, 1)) {
                keep(best[0], turn, candidate);
            }
            if (follows(candidate, size - 1, -1)) {
                keep(best[1], turn, candidate);
            }
            if (follows(candidate, turn, 1)) {
                keep(best[2], turn, candidate);
            }
            if (follows(candidate, turn, -1)) {
                keep(best[3], turn, candidate);
            }
        }
        int k = candidate.begins().size();
        Candidate held = divisions[k];
        int order = held == null ? -1 : candidate.error().compareTo(held.error());
        if (order < 0 || order == 0 && longerFirst(candidate, held)) {
            divisions[k] = candidate;
        }
    }

    private static boolean follows(Candidate candidate, int turn, int side) {
        List<Ratio> numbers = candidate.numbers();
        for (int group = 1; group < numbers.size(); group++) {
            int step = numbers.get(group).compareTo(numbers.get(group - 1));
            if (group <= turn ? side * step < 0 : side * step > 0) {
                return false;
            }
        }
        return true;
    }

    private static void keep(Candidate[] held, int turn, Candidate candidate) {
        if (held[turn] == null || candidate.error().compareTo(held[turn].error()) < 0) {
            held[turn] = candidate;
        }
    }

    private static boolean longerFirst(Candidate one, Candidate other) {
        for (int level = 0; level < one.begins().size(); level++) {
            int difference = one.begins().get(level) - other.begins().get(level);
            if (difference != 0) {
                return difference > 0;
            }
        }
        return false;
    }

    int turn(int kind) {
        int turn = 0;
        for (int group = 1; group < size; group++) {
            if (best[kind][group].error().compareTo(best[kind][turn].error()) < 0) {
                turn = group;
            }
        }
        return turn;
    }

    Candidate withTurn(int kind, int turn) {
        return best[kind][turn];
    }

    Candidate fit(int kind) {
        return best[kind][turn(kind)];
    }

    /** The first groups of the blocks of a fit. */
    List<Integer> blockBegins(int kind) {
        List<Integer> begins = new ArrayList<>();
        for (int group = 0; group < size; group++) {
            List<Ratio> numbers = fit(kind).numbers();
            if (group == 0 || numbers.get(group).compareTo(numbers.get(group - 1)) != 0) {
                begins.add(group);
            }
        }
        return begins;
    }

    /** Minorant or majorant: the lowest or highest of all lines between means around a group. */
    Ratio hull(int kind, int group) {
        int side = kind == 4 ? 1 : -1;
        Ratio extreme = mean(group, group);
        for (int left = 0; left < group; left++) {
            for (int right = group + 1; right < size; right++) {
                int here = positions.get(group) - positions.get(left);
                int whole = positions.get(right) - positions.get(left);
                Ratio rise = mean(right, right).minus(mean(left, left));
                Ratio line = mean(left, left).plus(rise.times(here).over(whole));
                if (side * line.compareTo(extreme) < 0) {
                    extreme = line;
                }
            }
        }
        return extreme;
    }

    List<Integer> kinks(int kind) {
        List<Integer> kinks = new ArrayList<>();
        for (int group = 1; group < size - 1; group++) {
            if (slope(kind, group - 1).compareTo(slope(kind, group)) != 0) {
                kinks.add(group);
            }
        }
        return kinks;
    }

    private Ratio slope(int kind, int group) {
        Ratio rise = hull(kind, group + 1).minus(hull(kind, group));
        return rise.over(positions.get(group + 1) - positions.get(group));
    }

    Ratio gapAt(int group) {
        return hull(5, group).minus(hull(4, group));
    }

    int gapGroup() {
        int widest = 0;
        for (int group = 1; group < size; group++) {
            if (gapAt(group).compareTo(gapAt(widest)) > 0) {
                widest = group;
            }
        }
        return widest;
    }

    int levels(Ratio penalty) {
        int cheapest = 1;
        for (int k = 2; k <= size; k++) {
            if (cost(k, penalty).compareTo(cost(cheapest, penalty)) < 0) {
                cheapest = k;
            }
        }
        return cheapest;
    }

    private Ratio cost(int k, Ratio penalty) {
        return divisions[k].error().plus(penalty.times(k));
    }

    /** Costs of two numbers of levels are the same at the penalty that is sought, or it is 0. */
    Ratio penaltyFor(int most) {
        Ratio least = levels(Ratio.ZERO) <= most ? Ratio.ZERO : null;
        for (int j = 1; j <= size; j++) {
            for (int k = j + 1; k <= size; k++) {
                Ratio drop = divisions[j].error().minus(divisions[k].error());
                Ratio penalty = drop.over(k - j);
                boolean less = least == null || penalty.compareTo(least) < 0;
                if (less && levels(penalty) <= most) {
                    least = penalty;
                }
            }
        }
        return least;
    }
}
