/** Compares answers with those that are due, prints the others, and ends a test. */
final class Checks {
    interface Call {
        long answer();
    }

    /** Far above the few seconds that a test takes. */
    private static final long MOST_MILLIS = 120000;

    static {
        Thread watch = new Thread(Checks::endWhatHangs);
        watch.setDaemon(true);
        watch.start();
    }

    private int wrong;
    /** Stands before each report: the sentence that is held, if there is one. */
    private String about = "";

    void about(String sentence) {
        about = sentence;
    }

    /** A program that is broken may not end; the test must, and fail. */
    private static void endWhatHangs() {
        try {
            Thread.sleep(MOST_MILLIS);
        } catch (InterruptedException early) {
            return;
        }
        System.out.println("the test does not end");
        Runtime.getRuntime().halt(1);
    }

    void same(String what, long got, long due) {
        if (got != due) {
            report(what + " answered " + got + ", due is " + due);
        }
    }

    void same(String what, double got, double due) {
        if (Double.compare(got, due) != 0) {
            report(what + " answered " + got + ", due is " + due);
        }
    }

    /** The call must throw just this class, and leave the object as it was. */
    void refused(RibbonPosts posts, String what, Class<?> due, Call call) {
        long before = posts.digest();
        Object got = outcome(call);
        if (got != due) {
            report(what + " answered " + got + ", due is " + due);
        }
        same("the digest after " + what, posts.digest(), before);
    }

    /** The answer, or the class of what was thrown. */
    static Object outcome(Call call) {
        try {
            return call.answer();
        } catch (RuntimeException thrown) {
            return thrown.getClass();
        }
    }

    void report(String line) {
        wrong++;
        if (wrong <= 40) {
            System.out.println(about + line);
        }
    }

    void end() {
        if (wrong > 0) {
            System.out.println(wrong + " answers are not as due");
            System.exit(1);
        }
    }

    /** Takes a text in place of all ribbons. */
    static int load(RibbonPosts posts, String text) {
        write(posts, text);
        return posts.load();
    }

    static void write(RibbonPosts posts, String text) {
        posts.clearBuffer();
        for (int index = 0; index < text.length(); index++) {
            posts.append(text.charAt(index));
        }
    }

    static RibbonPosts drawn(String text) {
        RibbonPosts posts = new RibbonPosts();
        load(posts, text);
        return posts;
    }

    /** The ribbons as a text, those with the width 0 too. */
    static String told(RibbonPosts posts) {
        StringBuilder text = new StringBuilder();
        int ribbons = posts.count(0);
        for (int ribbon = 0; ribbon < ribbons; ribbon++) {
            text.append(ribbon == 0 ? "" : ";");
            text.append((char) ('a' + posts.ribbonOf(ribbon, 0)));
            text.append((char) ('a' + posts.ribbonOf(ribbon, 1)));
            text.append(posts.ribbonOf(ribbon, 2));
        }
        return text.toString();
    }

    void tells(String what, RibbonPosts posts, String due) {
        String got = told(posts);
        if (!got.equals(due)) {
            report(what + " left " + got + ", due is " + due);
        }
    }

    /** All that a snapshot holds: the ribbons, the places, and what is trimmed. */
    static String state(RibbonPosts posts) {
        StringBuilder text = new StringBuilder(told(posts));
        for (int column = 0; column < 4; column++) {
            text.append(" column ").append(places(posts, column));
        }
        return text.append(" trimmed ").append(posts.count(8)).toString();
    }

    /** The places of the posts of a column, in the order of their numbers, as digits. */
    static int places(RibbonPosts posts, int column) {
        int digits = 0;
        for (int post = 4 * column; post < 4 * column + 4; post++) {
            digits = 10 * digits + posts.postOf(post, 0);
        }
        return digits;
    }
}
