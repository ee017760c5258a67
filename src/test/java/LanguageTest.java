import java.io.IOException;
import java.nio.file.Files;
import java.nio.file.Path;
import java.util.List;
import java.util.regex.Matcher;
import java.util.regex.Pattern;

/** What of ../shared/LANGUAGE.md a look at the lines can tell; it runs in the project's root. */
final class LanguageTest {
    private static final Checks CHECKS = new Checks();
    private static final Path PROGRAM = Path.of("src/main/java/RibbonPosts.java");
    private static final int LONGEST = 60;
    private static final Pattern LEFT_OUT = Pattern.compile("\\b(catch|try|finally|synchronized|assert|package|"
            + "protected|var|record|sealed|yield|goto|native|volatile|transient|strictfp|hashCode|toString|Random|"
            + "currentTimeMillis|nanoTime|Thread|getMessage|doubleToLongBits|\\w+Exact)\\b|->|::|\"\\s*\\+|\\+\\s*\"");
    private static final Pattern CALL = Pattern.compile("\\b([A-Z]\\w*)\\.(\\w+)\\(");
    private static final Pattern LIBRARY = Pattern.compile("(Math\\.(min|max|abs)|Arrays\\.fill|System\\.arraycopy)\\(");

    public static void main(String[] args) throws IOException {
        List<String> lines = Files.readAllLines(PROGRAM);
        int begun = 0;
        for (int index = 0; index < lines.size(); index++) {
            String line = lines.get(index);
            String code = line.trim();
            if (code.startsWith("*") || code.startsWith("/*") || code.startsWith("//")) {
                continue;
            }
            lookAt(index + 1, code);
            if (line.matches(" {4}(public|private).*") || line.matches(" {8}\\S.*\\) \\{")) {
                begun = index;
            }
            if (line.matches(" {4}( {4})?}") && index - begun > LONGEST && !line.matches(" {4}}")) {
                CHECKS.report("the method that ends in line " + (index + 1) + " is long");
            }
        }
        CHECKS.end();
    }

    private static void lookAt(int number, String code) {
        Matcher leftOut = LEFT_OUT.matcher(code);
        if (leftOut.find()) {
            CHECKS.report("line " + number + " holds " + leftOut.group());
        }
        if (code.startsWith("import") && !code.equals("import java.util.Arrays;")) {
            CHECKS.report("line " + number + ": " + code);
        }
        Matcher call = CALL.matcher(code);
        while (call.find()) {
            if (!LIBRARY.matcher(call.group()).matches()) {
                CHECKS.report("line " + number + " calls " + call.group());
            }
        }
        if (!code.chars().allMatch(sign -> sign < 128)) {
            CHECKS.report("line " + number + " holds another sign");
        }
    }
}
