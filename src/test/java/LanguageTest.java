import java.io.IOException;
import java.nio.file.Files;
import java.nio.file.Path;
import java.util.List;
import java.util.regex.Matcher;
import java.util.regex.Pattern;

/** What of ../shared/LANGUAGE.md a look at the lines can tell; it runs in the project's root. */
final class LanguageTest {
    private static final Checks CHECKS = new Checks();
    private static final Path PROGRAM = Path.of("src/main/java/RibbonPosts.java");
    /** Rule 11: "some sixty lines". */
    private static final int LONGEST = 60;
    /** Rules 1, 6 and 13, and what no rule names. */
    private static final Pattern LEFT_OUT = Pattern.compile("\\b(finally|synchronized|assert|package|protected|var|"
            + "sealed|native|volatile|transient|strictfp|hashCode|Object|Random|currentTimeMillis|nanoTime|Thread|"
            + "getMessage|doubleToLongBits|\\w+Exact)\\b|try \\(|::|\"\\s*\\+|\\+\\s*\"");
    /** What the machine throws, by its own name or by a class above it, is not caught. */
    private static final Pattern CAUGHT = Pattern.compile("catch \\((?!(final )?(IllegalState|IllegalArgument|"
            + "UnsupportedOperation|NoSuchElement)Exception\\b)");
    private static final Pattern THROWN = Pattern.compile("\\bthrow\\b(?! new (IllegalState|IllegalArgument|"
            + "IndexOutOfBounds|Arithmetic|UnsupportedOperation|NoSuchElement|Runtime)Exception\\((\"[^\"]*\")?\\);)");
    private static final Pattern IMPORT = Pattern.compile("import java\\.util\\."
            + "(Arrays|ArrayList|List|Iterator|NoSuchElementException);");
    private static final Pattern CALL = Pattern.compile("\\b(Math|Arrays|System|Double|Character|Objects|Long)\\.(\\w+)\\(");
    private static final Pattern LIBRARY = Pattern.compile("(Math|Long)\\.\\w+\\(|Arrays\\.(fill|copyOf|copyOfRange)\\(|"
            + "System\\.arraycopy\\(");

    public static void main(String[] args) throws IOException {
        List<String> lines = Files.readAllLines(PROGRAM);
        int begun = 0;
        for (int index = 0; index < lines.size(); index++) {
            String line = lines.get(index);
            String code = line.trim();
            if (code.startsWith("*") || code.startsWith("/*") || code.startsWith("//")) {
                continue;
            }
            lookAt(index + 1, code);
            if (line.matches(" {4}(public|private).*") || line.matches(" {8}\\S.*\\) \\{")) {
                begun = index;
            }
            if (line.matches(" {4}( {4})?}") && index - begun > LONGEST && !line.matches(" {4}}")) {
                CHECKS.report("the method that ends in line " + (index + 1) + " is long");
            }
        }
        CHECKS.end();
    }

    private static void lookAt(int number, String code) {
        for (Pattern wrong : new Pattern[] {LEFT_OUT, CAUGHT, THROWN}) {
            Matcher found = wrong.matcher(code);
            if (found.find()) {
                CHECKS.report("line " + number + " holds " + found.group());
            }
        }
        if (code.startsWith("import") && !IMPORT.matcher(code).matches()) {
            CHECKS.report("line " + number + ": " + code);
        }
        Matcher call = CALL.matcher(code);
        while (call.find()) {
            if (!LIBRARY.matcher(call.group()).matches()) {
                CHECKS.report("line " + number + " calls " + call.group());
            }
        }
        if (!code.chars().allMatch(sign -> sign < 128)) {
            CHECKS.report("line " + number + " holds another sign");
        }
    }
}
