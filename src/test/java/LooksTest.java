/** Promises 17 to 19: postOf, ribbonOf, count. */
final class LooksTest {
    private static final Checks CHECKS = new Checks();

    public static void main(String[] args) {
        postOf();
        wrongPosts();
        ribbonOf();
        count();
        crossings();
        byWidths();
        CHECKS.end();
    }

    private static void postAllOf(RibbonPosts posts, int post, int... due) {
        for (int what = 0; what < 8; what++) {
            CHECKS.same("postOf(" + post + ", " + what + ")", posts.postOf(post, what), due[what]);
        }
    }

    private static void postOf() {
        RibbonPosts posts = Checks.drawn("ae10;be7;ei5;ep4;ie9;ea3;im5;jn8");
        posts.ribbon(2, 4, 6);
        posts.widen(8, 0);
        posts.swap(4, 6);
        postAllOf(posts, 0, 0, 0, 10, 0, 1, 1, 1, 10);
        postAllOf(posts, 2, 2, 0, 0, 0, 1, 0, 1, 0);
        postAllOf(posts, 4, 2, 17, 9, 3, 2, 2, 0, 17);
        postAllOf(posts, 6, 0, 0, 0, 0, 0, 0, 1, 0);
        postAllOf(posts, 8, 0, 5, 5, 1, 1, 1, 1, 5);
        postAllOf(posts, 9, 1, 0, 8, 0, 1, 0, 0, 8);
        postAllOf(posts, 11, 3, 0, 0, 0, 0, 0, 1, 0);
        postAllOf(posts, 12, 0, 5, 0, 1, 0, 0, 1, 5);
        postAllOf(posts, 15, 3, 4, 0, 1, 0, 0, 1, 4);
        CHECKS.same("saved after looks", posts.count(9), 4);
        posts = Checks.drawn("pa3;ea5;am1");
        postAllOf(posts, 0, 0, 0, 1, 0, 1, 2, 1, 1);
        postAllOf(posts, 4, 0, 0, 0, 0, 0, 1, 1, 0);
        postAllOf(posts, 15, 3, 0, 0, 0, 0, 1, 1, 0);
    }

    private static void wrongPosts() {
        RibbonPosts posts = Checks.drawn("ae5");
        for (int post : new int[] {-1, 16, Integer.MAX_VALUE, Integer.MIN_VALUE}) {
            CHECKS.refused(posts, "postOf(" + post + ", 0)", IndexOutOfBoundsException.class,
                    () -> posts.postOf(post, 0));
            CHECKS.refused(posts, "postOf(" + post + ", 8)", IndexOutOfBoundsException.class,
                    () -> posts.postOf(post, 8));
        }
        for (int what : new int[] {-1, 8, 10, Integer.MAX_VALUE, Integer.MIN_VALUE}) {
            CHECKS.refused(posts, "postOf(0, " + what + ")", IllegalArgumentException.class,
                    () -> posts.postOf(0, what));
            CHECKS.refused(posts, "postOf(5, " + what + ")", IllegalArgumentException.class,
                    () -> posts.postOf(5, what));
            CHECKS.refused(posts, "ribbonOf(0, " + what + ")", IllegalArgumentException.class,
                    () -> posts.ribbonOf(0, what));
            CHECKS.refused(posts, "ribbonOf(1, " + what + ")", IndexOutOfBoundsException.class,
                    () -> posts.ribbonOf(1, what));
        }
        CHECKS.refused(posts, "ribbonOf(0, 5)", IllegalArgumentException.class, () -> posts.ribbonOf(0, 5));
        CHECKS.refused(posts, "ribbonOf(-1, 0)", IndexOutOfBoundsException.class, () -> posts.ribbonOf(-1, 0));
        CHECKS.refused(posts, "count(-1)", IllegalArgumentException.class, () -> posts.count(-1));
        CHECKS.refused(posts, "count(10)", IllegalArgumentException.class, () -> posts.count(10));
        CHECKS.refused(posts, "count of the least", IllegalArgumentException.class,
                () -> posts.count(Integer.MIN_VALUE));
    }

    private static void ribbonAllOf(RibbonPosts posts, int ribbon, int... due) {
        for (int what = 0; what < 5; what++) {
            CHECKS.same("ribbonOf(" + ribbon + ", " + what + ")", posts.ribbonOf(ribbon, what), due[what]);
        }
    }

    private static void ribbonOf() {
        RibbonPosts posts = Checks.drawn("ah9;be3;cg2;ha4;eb5;am7;bn1");
        posts.widen(1, 0);
        ribbonAllOf(posts, 0, 0, 7, 9, 1, 2);
        ribbonAllOf(posts, 1, 1, 4, 0, 1, 1);
        ribbonAllOf(posts, 2, 2, 6, 2, 1, 1);
        ribbonAllOf(posts, 3, 7, 0, 4, 0, 0);
        ribbonAllOf(posts, 4, 4, 1, 5, 0, 0);
        ribbonAllOf(posts, 5, 0, 12, 7, 1, 0);
        ribbonAllOf(posts, 6, 1, 13, 1, 1, 0);
    }

    private static void counts(RibbonPosts posts, int... due) {
        for (int what = 0; what < due.length; what++) {
            CHECKS.same("count(" + what + ") of " + Checks.told(posts), posts.count(what), due[what]);
        }
    }

    private static void count() {
        RibbonPosts posts = Checks.drawn("af9;be3;em2;jp6;na40");
        posts.widen(2, 1);
        posts.trim(9);
        counts(posts, 5, 53, 3, 3, 1, 2, 1, 1, 6, 3);
        // Uneven are e and f; j is even again.
        posts.widen(3, 6);
        counts(posts, 5, 59, 3, 3, 1, 3, 1, 1, 6, 4);
    }

    private static void crossings() {
        // One begin, one end, the same ribbon twice: nothing crosses.
        counts(Checks.drawn("ae5;af6;bf7;ae8"), 4, 26, 0, 0, 0);
        // Other columns of the begin or of the end: nothing crosses.
        counts(Checks.drawn("bi5;ah6;fm3;bm4"), 4, 18, 0, 0, 0);
        // Ribbons back cross nothing.
        counts(Checks.drawn("eb5;fa6;af7;hb3"), 4, 21, 0, 0, 0);
        // Each way round.
        counts(Checks.drawn("be5;af6"), 2, 11, 5, 5, 1);
        counts(Checks.drawn("af6;be5"), 2, 11, 5, 5, 1);
        counts(Checks.drawn("ap50;bo50;cn50;dm50"), 4, 200, 300, 300, 6);
        RibbonPosts posts = Checks.drawn("af6;be5");
        posts.widen(1, 0);
        counts(posts, 2, 6, 0, 0, 1);
        posts.swap(4, 7);
        counts(posts, 2, 6, 0, 0, 0);
    }

    /** What is told pair by pair and width by width is the same for each two of 50 widths. */
    private static void byWidths() {
        for (int width = 0; width <= 50; width += 7) {
            for (int other = 1; other <= 50; other += 7) {
                RibbonPosts posts = Checks.drawn("aj1;bi1;aj1;ci1");
                posts.widen(0, width);
                posts.widen(1, other);
                int due = Math.min(width, other) + Math.min(width, 1) + 2;
                CHECKS.same("count(2) of " + Checks.told(posts), posts.count(2), due);
                CHECKS.same("count(3) of " + Checks.told(posts), posts.count(3), due);
            }
        }
    }
}
