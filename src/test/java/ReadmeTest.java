import java.io.IOException;
import java.nio.file.Files;
import java.nio.file.Path;
import java.util.Arrays;
import java.util.List;
import java.util.regex.Matcher;
import java.util.regex.Pattern;

/** The examples of README.md: the answer that stands behind a call is the one that is due. */
public final class ReadmeTest {
    private static final Pattern CALL = Pattern.compile("x\\.(\\w+)\\((.*)\\); *// (-?\\d+).*");
    private static final Pattern TEXT =
            Pattern.compile("\\| `([0-9:;*x-]+)` \\| (none|\\d+) \\| (none|[0-9, ]+) \\|");
    private static final int LEAST_CALLS = 20;
    private static final int LEAST_TEXTS = 5;

    private static final Checks CHECKS = new Checks("ReadmeTest");

    public static void main(String[] args) throws IOException {
        List<String> lines = Files.readAllLines(Path.of("README.md"));
        ShapeFits x = new ShapeFits();
        int calls = 0;
        int texts = 0;
        for (String line : lines) {
            Matcher call = CALL.matcher(line);
            if (call.matches()) {
                calls++;
                checkCall(x, call);
            }
            Matcher text = TEXT.matcher(line);
            if (text.matches()) {
                texts++;
                checkText(text);
            }
        }
        CHECKS.due(1, "calls that are missing", Math.max(0, LEAST_CALLS - calls), 0);
        CHECKS.due(27, "texts that are missing", Math.max(0, LEAST_TEXTS - texts), 0);
        CHECKS.finish();
    }

    private static void checkCall(ShapeFits x, Matcher call) {
        int method = Arrays.asList(Calls.NAMES).indexOf(call.group(1));
        int[] numbers = numbers(call.group(2));
        long want = Long.parseLong(call.group(3));
        CHECKS.due(Calls.promise(method), call.group(),
                Calls.answer(x, method, numbers[0], numbers[1], numbers[2]), want);
    }

    private static void checkText(Matcher text) {
        ShapeFits x = new ShapeFits();
        Checks.write(x, text.group(1));
        boolean right = text.group(2).equals("none");
        int fault = right ? ShapeFits.NOT_FOUND : Integer.parseInt(text.group(2));
        CHECKS.due(27, "fault of " + text.group(1), x.fault(), fault);
        int[] reasons = numbers(right ? "" : text.group(3));
        for (int index = 0; index < reasons.length; index++) {
            int reason = reasons[index] == 0 ? ShapeFits.NOT_FOUND : reasons[index];
            CHECKS.due(28, "reason " + index + " of " + text.group(1), x.reason(index), reason);
        }
    }

    /** Three numbers; 0 for those that the words, parted by ", ", do not have. */
    private static int[] numbers(String words) {
        int[] numbers = new int[3];
        int index = 0;
        for (String word : words.split(", ")) {
            if (!word.isEmpty()) {
                numbers[index] = Integer.parseInt(word);
                index++;
            }
        }
        return numbers;
    }
}
