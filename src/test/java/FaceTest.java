import java.io.IOException;
import java.lang.reflect.Constructor;
import java.lang.reflect.Field;
import java.lang.reflect.Member;
import java.lang.reflect.Method;
import java.lang.reflect.Modifier;
import java.nio.file.Files;
import java.nio.file.Path;
import java.util.Arrays;
import java.util.Set;
import java.util.TreeSet;

/** "The public face" of the document, with its throws clauses, and nothing else that is not private. */
final class FaceTest {
    private static final Checks CHECKS = new Checks();
    private static final Path DOC = Path.of("../shared/DOC.md");
    private static final Path PROGRAM = Path.of("src/main/java/RibbonPosts.java");
    private static final String INDEX = "IndexOutOfBoundsException";
    private static final String ARGUMENT = "IllegalArgumentException";
    private static final String STATE = "IllegalStateException";

    private static final String[] FACE = {
        "int ribbon(int, int, int) " + INDEX + " " + ARGUMENT + " " + STATE,
        "int widen(int, int) " + INDEX + " " + ARGUMENT,
        "int remove(int) " + INDEX,
        "int swap(int, int) " + INDEX + " " + ARGUMENT,
        "int sweep()",
        "int order(int) " + INDEX,
        "int trim(int) " + INDEX,
        "int settle()",
        "int append(int) " + ARGUMENT + " " + STATE,
        "int clearBuffer()",
        "int firstError()",
        "int load() " + ARGUMENT,
        "int keep(int) " + ARGUMENT,
        "int goBack(int) " + ARGUMENT + " " + STATE,
        "int undo() " + STATE,
        "int postOf(int, int) " + INDEX + " " + ARGUMENT,
        "int ribbonOf(int, int) " + INDEX + " " + ARGUMENT,
        "int count(int) " + ARGUMENT,
        "int ifSwapped(int, int) " + INDEX + " " + ARGUMENT,
        "int bestOrder(int) " + INDEX,
        "int ifSettled()",
        "int mainRibbon()",
        "int height(int) " + INDEX,
        "double throughShare()",
        "long digest()",
    };

    public static void main(String[] args) throws IOException {
        linesOfDocument();
        methods();
        membersAreApart();
        classesInside();
        CHECKS.end();
    }

    /** Each line of the document's face stands in the program, by its words: names of parameters, order of throws. */
    private static void linesOfDocument() throws IOException {
        if (!Files.exists(DOC)) {
            return;
        }
        String document = Files.readString(DOC);
        int begin = document.indexOf("```java") + "```java".length();
        String[] lines = document.substring(begin, document.indexOf("```", begin)).split("\n");
        String program = Files.readString(PROGRAM).replaceAll("\\s+", " ");
        int faces = 0;
        for (String line : lines) {
            String due = line.trim().replaceAll("\\);$", ") {").replaceAll("Exception;$", "Exception {");
            if (!program.contains(due)) {
                CHECKS.report("the program has not: " + due);
            }
            faces += due.startsWith("public") ? 1 : 0;
        }
        // The class, its constant and its constructor stand beside the calls.
        CHECKS.same("lines of the face", faces, FACE.length + 3);
    }

    private static String told(Method method) {
        StringBuilder text = new StringBuilder();
        text.append(method.getReturnType().getSimpleName()).append(' ').append(method.getName()).append('(');
        String comma = "";
        for (Class<?> type : method.getParameterTypes()) {
            text.append(comma).append(type.getSimpleName());
            comma = ", ";
        }
        text.append(')');
        for (Class<?> type : method.getExceptionTypes()) {
            text.append(' ').append(type.getSimpleName());
        }
        return text.toString();
    }

    private static void methods() {
        Set<String> got = new TreeSet<>();
        for (Method method : RibbonPosts.class.getDeclaredMethods()) {
            if (Modifier.isPublic(method.getModifiers())) {
                got.add(told(method));
            }
        }
        Set<String> due = new TreeSet<>(Arrays.asList(FACE));
        if (!got.equals(due)) {
            CHECKS.report("the face is " + got + ", due is " + due);
        }
        int modifiers = RibbonPosts.class.getModifiers();
        CHECKS.same("public and final", modifiers, Modifier.PUBLIC | Modifier.FINAL);
    }

    private static void membersAreApart() {
        for (Method method : RibbonPosts.class.getDeclaredMethods()) {
            boolean own = Modifier.isPrivate(method.getModifiers());
            boolean named = Arrays.stream(FACE).anyMatch(line -> line.contains(" " + method.getName() + "("));
            if (own == named) {
                CHECKS.report("the method " + method + " is not as due");
            }
        }
        for (Field field : RibbonPosts.class.getDeclaredFields()) {
            onlyPublic(field, "NONE");
        }
        Constructor<?>[] made = RibbonPosts.class.getDeclaredConstructors();
        CHECKS.same("constructors", made.length, 1);
        CHECKS.same("parameters of the constructor", made[0].getParameterCount(), 0);
    }

    private static void onlyPublic(Member member, String name) {
        boolean face = member.getName().equals(name);
        if (Modifier.isPrivate(member.getModifiers()) == face) {
            CHECKS.report("the member " + member + " is not as due");
        }
    }

    private static void classesInside() {
        Class<?>[] inside = RibbonPosts.class.getDeclaredClasses();
        if (inside.length > 11) {
            CHECKS.report("there are " + inside.length + " classes inside");
        }
        for (Class<?> one : inside) {
            if (!Modifier.isStatic(one.getModifiers()) || Modifier.isPublic(one.getModifiers())
                    || Modifier.isProtected(one.getModifiers())) {
                CHECKS.report(one + " is not as due");
            }
            for (Field field : one.getDeclaredFields()) {
                if (Modifier.isStatic(field.getModifiers()) && !Modifier.isFinal(field.getModifiers())) {
                    CHECKS.report("the field " + field + " is static and not final");
                }
            }
        }
    }
}
