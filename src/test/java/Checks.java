import java.util.Set;
import java.util.TreeSet;

/** Counts the answers of a test that are not as due, and makes objects with points and texts. */
final class Checks {
    private static final int PROMISES = 28;
    private static final int MOST_LINES = 40;

    private final String test;
    private final Set<Integer> named = new TreeSet<>();
    private int promise;
    private String sentence = "";
    private int checked;
    private int wrong;

    Checks(String test) {
        this.test = test;
    }

    /** What is checked without a promise's number belongs, from here on, to these words of it. */
    void sentence(int promise, String words) {
        this.promise = promise;
        sentence = ", \"" + words + "\"";
        named.add(promise);
    }

    void due(String call, long got, long want) {
        count(promise, sentence, call, got, want);
    }

    void due(int promise, String call, long got, long want) {
        count(promise, "", call, got, want);
    }

    private void count(int promise, String words, String call, long got, long want) {
        checked++;
        if (got != want) {
            wrong++;
            if (wrong <= MOST_LINES) {
                System.out.println(test + ", promise " + promise + words + ": " + call
                        + " answered " + got + ", due is " + want);
            }
        }
    }

    /** Checks numerator and denominator of a fraction. */
    void dueFraction(String call, long[] got, long numerator, long denominator) {
        due(call + " numerator", got[0], numerator);
        due(call + " denominator", got[1], denominator);
    }

    void dueFraction(int promise, String call, long[] got, long numerator, long denominator) {
        due(promise, call + " numerator", got[0], numerator);
        due(promise, call + " denominator", got[1], denominator);
    }

    /** Every promise shall have had a sentence. */
    void dueAllPromises() {
        for (int number = 1; number <= PROMISES; number++) {
            due(number, "sentences of the promise", named.contains(number) ? 1 : 0, 1);
        }
    }

    void finish() {
        System.out.println(test + ": " + checked + " answers, " + wrong + " not as due");
        if (wrong != 0) {
            System.exit(1);
        }
    }

    /** An object with a point for each three numbers: position, value, weight. */
    static ShapeFits with(int... numbers) {
        ShapeFits x = new ShapeFits();
        for (int i = 0; i + 2 < numbers.length; i += 3) {
            x.add(numbers[i], numbers[i + 1], numbers[i + 2]);
        }
        return x;
    }

    /** An object with a point of weight 1 for each value, at the positions 0, 1, 2 and so on. */
    static ShapeFits values(int... values) {
        ShapeFits x = new ShapeFits();
        for (int i = 0; i < values.length; i++) {
            x.add(i, values[i], 1);
        }
        return x;
    }

    static void write(ShapeFits x, String text) {
        x.clearText();
        for (int i = 0; i < text.length(); i++) {
            x.type(text.charAt(i));
        }
    }

    static long[] fit(ShapeFits x, int kind, int group) {
        return new long[] {x.fit(kind, group, 0), x.fit(kind, group, 1)};
    }

    static long[] error(ShapeFits x, int kind) {
        return new long[] {x.error(kind, 0), x.error(kind, 1)};
    }

    static long[] turnError(ShapeFits x, int kind, int group) {
        return new long[] {x.turnError(kind, group, 0), x.turnError(kind, group, 1)};
    }

    static long[] gap(ShapeFits x) {
        return new long[] {x.gap(0), x.gap(1)};
    }

    static long[] levelError(ShapeFits x, int k) {
        return new long[] {x.levelError(k, 0), x.levelError(k, 1)};
    }

    static long[] penaltyFor(ShapeFits x, int most) {
        return new long[] {x.penaltyFor(most, 0), x.penaltyFor(most, 1)};
    }
}
