import java.io.IOException;
import java.nio.file.Files;
import java.nio.file.Path;
import java.util.List;
import java.util.regex.Pattern;

/** Rules of ../shared/LANGUAGE.md that can be seen in the lines of src/main/java/ShapeFits.java. */
public final class LanguageTest {
    private static final Path PROGRAM = Path.of("src/main/java/ShapeFits.java");
    private static final int MOST_LINES = 60;
    private static final int MOST_CLASSES = 12;
    private static final Pattern COMMENT = Pattern.compile("^\\s*(/\\*|\\*).*|//.*");
    private static final Pattern FORBIDDEN = Pattern.compile(
            "\\b(throw|throws|try|catch|finally|synchronized|assert|package|import|Object|var)\\b"
            + "|->|::|\\bstatic \\{|Exact\\b");
    private static final Pattern METHOD =
            Pattern.compile("( {4}| {8})(public |private |static )*[\\w\\[\\]]+ \\w+\\(.*\\{");
    private static final Pattern END = Pattern.compile("( {4}| {8})\\}");
    private static final Pattern CLASS = Pattern.compile("\\b(class|record|enum|interface) \\w+.*\\{");

    private static final Checks CHECKS = new Checks("LanguageTest");

    public static void main(String[] args) throws IOException {
        List<String> lines = Files.readAllLines(PROGRAM);
        wordsAndSigns(lines);
        lengthsOfMethods(lines);
        numberOfClasses(lines);
        CHECKS.finish();
    }

    private static String code(String line) {
        return COMMENT.matcher(line).replaceAll("");
    }

    private static void wordsAndSigns(List<String> lines) {
        for (String line : lines) {
            boolean forbidden = FORBIDDEN.matcher(code(line)).find();
            CHECKS.due(1, "a word outside the rules: " + line, forbidden ? 1 : 0, 0);
            CHECKS.due(1, "a sign above 127: " + line, line.matches("\\p{ASCII}*") ? 0 : 1, 0);
        }
    }

    private static void lengthsOfMethods(List<String> lines) {
        int begin = lines.size();
        for (int i = 0; i < lines.size(); i++) {
            if (METHOD.matcher(code(lines.get(i))).matches()) {
                begin = i;
            } else if (END.matcher(lines.get(i)).matches()) {
                CHECKS.due(1, "lines above " + MOST_LINES + " up to line " + (i + 1),
                        Math.max(0, i - begin - MOST_LINES), 0);
                begin = lines.size();
            }
        }
    }

    private static void numberOfClasses(List<String> lines) {
        int classes = 0;
        for (String line : lines) {
            classes += CLASS.matcher(code(line)).find() ? 1 : 0;
        }
        CHECKS.due(1, "classes above " + MOST_CLASSES, Math.max(0, classes - MOST_CLASSES), 0);
        CHECKS.due(1, "no class was found", classes == 0 ? 1 : 0, 0);
    }
}
