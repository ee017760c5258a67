/** Promises 10 to 13: append, clearBuffer, firstError, load. */
final class TextsTest {
    private static final Checks CHECKS = new Checks();

    public static void main(String[] args) {
        append();
        clearBuffer();
        firstError();
        load();
        wrongLoads();
        CHECKS.end();
    }

    private static void append() {
        RibbonPosts posts = new RibbonPosts();
        CHECKS.same("append(33)", posts.append(33), 1);
        CHECKS.same("append(126)", posts.append(126), 2);
        CHECKS.same("append saves nothing", posts.count(9), 0);
        for (int code : new int[] {32, 127, 0, -1, Integer.MAX_VALUE, Integer.MIN_VALUE}) {
            CHECKS.refused(posts, "append(" + code + ")", IllegalArgumentException.class,
                    () -> posts.append(code));
        }
        for (int length = 3; length <= 60; length++) {
            CHECKS.same("append to " + length, posts.append('a'), length);
        }
        CHECKS.refused(posts, "append of 61", IllegalStateException.class, () -> posts.append('a'));
        CHECKS.refused(posts, "append of 61, code 32", IllegalArgumentException.class, () -> posts.append(32));
        CHECKS.same("clearBuffer of 60", posts.clearBuffer(), 60);
        CHECKS.same("append after clearBuffer", posts.append('a'), 1);
    }

    private static void clearBuffer() {
        RibbonPosts posts = new RibbonPosts();
        Checks.write(posts, "ae1;");
        CHECKS.same("clearBuffer", posts.clearBuffer(), 4);
        CHECKS.same("clearBuffer again", posts.clearBuffer(), 0);
        CHECKS.same("clearBuffer saves nothing", posts.count(9), 0);
        CHECKS.same("firstError after clearBuffer", posts.firstError(), 0);
    }

    private static void firstErrorOf(String text, int due) {
        RibbonPosts posts = new RibbonPosts();
        Checks.write(posts, text);
        CHECKS.same("firstError of " + text, posts.firstError(), due);
        CHECKS.same("clearBuffer after firstError of " + text, posts.clearBuffer(), text.length());
    }

    private static void firstError() {
        firstErrorOf("", 0);
        String[] beginnings = {"a", "p", "ae", "pa", "ap", "de", "ae1", "ae4", "ae5", "ae9", "ae10", "ae49", "ae50",
            "ae1;", "ae50;b", "ae9;ea49;le7"};
        for (String text : beginnings) {
            firstErrorOf(text, text.length());
        }
        // The last character of each is a syntax error.
        String[] wrong = {"1", ";", "q", "A", "`", "~", "ab", "ad", "pm", "lk", "ef", "aa", "aq", "aA", "a1", "a;",
            "a`", "ae0", "aee", "ae;", "ae/", "ae:", "ae51", "ae59", "ae60", "ae90", "ae100", "ae500", "ae10a",
            "ae5a", "ae1a", "ae4/", "ae4:", "ae1;;", "ae1;1", "ae1;q", "ae1;eh", "ae12,"};
        for (String text : wrong) {
            firstErrorOf(text, text.length() - 1);
            firstErrorOf(text + "ae1", text.length() - 1);
        }
        // Sixty characters are no end of a drawing: another one could follow, if it could not be kept.
        String full = "ae10;".repeat(12);
        firstErrorOf(full, 60);
        firstErrorOf(full.substring(0, 59) + "1", 59);
    }

    private static void load() {
        RibbonPosts posts = new RibbonPosts();
        posts.ribbon(0, 15, 9);
        posts.ribbon(4, 8, 2);
        posts.trim(4);
        posts.swap(0, 1);
        Checks.write(posts, "ae1;pa50;dm49");
        CHECKS.same("load", posts.load(), 3);
        CHECKS.tells("load", posts, "ae1;pa50;dm49");
        CHECKS.same("places after load", Checks.places(posts, 0), 1023);
        CHECKS.same("count(8) after load", posts.count(8), 2);
        CHECKS.same("saved by load", posts.count(9), 5);
        CHECKS.same("buffer after load", posts.clearBuffer(), 0);
        CHECKS.same("load of one", Checks.load(posts, "ea5"), 1);
        posts.undo();
        CHECKS.same("the buffer is not restored", posts.clearBuffer(), 0);
        Checks.write(posts, "bb");
        posts.undo();
        CHECKS.tells("undo of load", posts, "ap9;ei0");
        CHECKS.same("undo leaves the buffer", posts.clearBuffer(), 2);
        CHECKS.same("load of fifteen", Checks.load(posts, "ae1;".repeat(14) + "bf20"), 15);
        CHECKS.same("the last of fifteen", posts.ribbonOf(14, 2), 20);
    }

    private static void wrongLoads() {
        RibbonPosts posts = Checks.drawn("bf3");
        String[] wrong = {"", "a", "ae", "ae1;", "ae1;b", "ae1;bf", "ae0", "ae51", "ab1", "ae1;;bf1", ";ae1", "ae01",
            "ae1bf1", "q", "ae100", "ae1;aa9"};
        for (String text : wrong) {
            Checks.write(posts, text);
            CHECKS.refused(posts, "load of " + text, IllegalArgumentException.class, () -> posts.load());
            CHECKS.same("buffer after the load of " + text, posts.clearBuffer(), text.length());
        }
        CHECKS.tells("wrong loads", posts, "bf3");
        CHECKS.same("saved after wrong loads", posts.count(9), 1);
    }
}
