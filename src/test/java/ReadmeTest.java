import java.io.IOException;
import java.lang.reflect.InvocationTargetException;
import java.lang.reflect.Method;
import java.nio.file.Files;
import java.nio.file.Path;
import java.util.Set;
import java.util.TreeSet;
import java.util.regex.Matcher;
import java.util.regex.Pattern;

/** The examples in README.md, line by line, and that it names each call; it runs in the project's root. */
final class ReadmeTest {
    private static final Checks CHECKS = new Checks();
    private static final String NEW = "RibbonPosts posts = new RibbonPosts();";
    /** A call, and behind it the answer, or "throws" and what is thrown. */
    private static final Pattern LINE = Pattern.compile(
            "posts\\.(\\w+)\\(([^)]*)\\);\\s*// (throws \\w+|-?[0-9.]+)(:.*|;.*|)");
    private static final Pattern ROW = Pattern.compile("(?m)^\\| `(\\w+)\\(([^)]*)\\)` \\|");

    private ReadmeTest() {
    }

    public static void main(String[] args) throws IOException, IllegalAccessException {
        String readme = Files.readString(Path.of("README.md"));
        Matcher block = Pattern.compile("(?s)```java\n(.*?)```").matcher(readme);
        int blocks = 0;
        while (block.find()) {
            blocks++;
            runBlock(block.group(1).split("\n"));
        }
        CHECKS.same("blocks of code", blocks, 3);
        namesEachCall(readme);
        CHECKS.end();
    }

    private static void runBlock(String[] lines) throws IllegalAccessException {
        RibbonPosts posts = new RibbonPosts();
        if (!lines[0].equals(NEW)) {
            CHECKS.report("a block begins with " + lines[0]);
        }
        for (int index = 1; index < lines.length; index++) {
            Matcher line = LINE.matcher(lines[index]);
            if (line.matches()) {
                runLine(posts, lines[index], line);
            } else {
                CHECKS.report("no call with its answer: " + lines[index]);
            }
        }
    }

    private static void runLine(RibbonPosts posts, String text, Matcher line) throws IllegalAccessException {
        String[] told = line.group(2).isEmpty() ? new String[0] : line.group(2).split(", *");
        Method method = methodOf(line.group(1), told.length);
        if (method == null) {
            CHECKS.report("there is no such call: " + text);
            return;
        }
        Object[] arguments = new Object[told.length];
        for (int index = 0; index < told.length; index++) {
            arguments[index] = told[index].startsWith("'") ? told[index].charAt(1) : Integer.parseInt(told[index]);
        }
        String got = outcome(method, posts, arguments);
        if (!got.equals(line.group(3))) {
            CHECKS.report(text + " answered " + got);
        }
    }

    private static String outcome(Method method, RibbonPosts posts, Object[] arguments) throws IllegalAccessException {
        try {
            return method.invoke(posts, arguments).toString();
        } catch (InvocationTargetException thrown) {
            return "throws " + thrown.getCause().getClass().getSimpleName();
        }
    }

    private static Method methodOf(String name, int arguments) {
        for (Method method : RibbonPosts.class.getMethods()) {
            if (method.getName().equals(name) && method.getParameterCount() == arguments) {
                return method;
            }
        }
        return null;
    }

    /** The table has a row for each call of the face, and no other one. */
    private static void namesEachCall(String readme) {
        Set<String> rows = new TreeSet<>();
        Matcher row = ROW.matcher(readme);
        while (row.find()) {
            rows.add(row.group(1) + " with " + (row.group(2).isEmpty() ? 0 : row.group(2).split(",").length));
        }
        Set<String> calls = new TreeSet<>();
        for (Method method : RibbonPosts.class.getMethods()) {
            if (method.getDeclaringClass() == RibbonPosts.class) {
                calls.add(method.getName() + " with " + method.getParameterCount());
            }
        }
        if (!rows.equals(calls)) {
            CHECKS.report("the table names " + rows + ", due is " + calls);
        }
    }
}
