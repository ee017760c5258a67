/** Promises 1 to 4: a new object, ribbon, widen, remove. */
final class RibbonsTest {
    private static final Checks CHECKS = new Checks();

    public static void main(String[] args) {
        newObject();
        ribbon();
        wrongRibbons();
        twentyRibbons();
        widen();
        remove();
        CHECKS.end();
    }

    private static void newObject() {
        RibbonPosts posts = new RibbonPosts();
        for (int what = 0; what <= 9; what++) {
            CHECKS.same("new: count(" + what + ")", posts.count(what), 0);
        }
        for (int post = 0; post < 16; post++) {
            CHECKS.same("new: place of " + post, posts.postOf(post, 0), post % 4);
        }
        CHECKS.same("new: firstError", posts.firstError(), 0);
        CHECKS.same("new: clearBuffer", posts.clearBuffer(), 0);
        CHECKS.same("new: NONE", RibbonPosts.NONE, -1);
        CHECKS.refused(posts, "new: goBack(0)", IllegalStateException.class, () -> posts.goBack(0));
        CHECKS.refused(posts, "new: goBack(1)", IllegalStateException.class, () -> posts.goBack(1));
        CHECKS.refused(posts, "new: undo", IllegalStateException.class, () -> posts.undo());
    }

    private static void ribbon() {
        RibbonPosts posts = new RibbonPosts();
        CHECKS.same("ribbon on", posts.ribbon(0, 15, 50), 0);
        CHECKS.same("ribbon back", posts.ribbon(15, 0, 1), 1);
        CHECKS.same("ribbon again", posts.ribbon(0, 15, 50), 2);
        CHECKS.same("ribbon to the next column", posts.ribbon(3, 4, 2), 3);
        CHECKS.tells("ribbon", posts, "ap50;pa1;ap50;de2");
        CHECKS.same("saved by ribbon", posts.count(9), 4);
        posts.undo();
        CHECKS.tells("undo of ribbon", posts, "ap50;pa1;ap50");
    }

    private static void wrongRibbons() {
        RibbonPosts posts = Checks.drawn("ae5");
        int[][] noPost = {{-1, 4, 1}, {16, 4, 1}, {4, -1, 1}, {4, 16, 1}, {-1, -1, 0}, {16, 15, 51},
            {Integer.MIN_VALUE, 4, 1}, {4, Integer.MAX_VALUE, 1}};
        for (int[] call : noPost) {
            CHECKS.refused(posts, "ribbon without post " + call[0] + " " + call[1],
                    IndexOutOfBoundsException.class, () -> posts.ribbon(call[0], call[1], call[2]));
        }
        int[][] unfit = {{0, 0, 1}, {0, 3, 1}, {3, 0, 1}, {12, 15, 1}, {5, 6, 1},
            {0, 4, 0}, {0, 4, 51}, {0, 4, -1}, {0, 4, Integer.MIN_VALUE}};
        for (int[] call : unfit) {
            CHECKS.refused(posts, "ribbon that is unfit " + call[0] + " " + call[1] + " " + call[2],
                    IllegalArgumentException.class, () -> posts.ribbon(call[0], call[1], call[2]));
        }
    }

    private static void twentyRibbons() {
        RibbonPosts posts = new RibbonPosts();
        for (int number = 0; number < 20; number++) {
            CHECKS.same("ribbon " + number, posts.ribbon(number % 4, 4 + number % 12, 1 + number), number);
        }
        CHECKS.refused(posts, "ribbon 20", IllegalStateException.class, () -> posts.ribbon(0, 4, 1));
        CHECKS.refused(posts, "ribbon 20, unfit", IllegalArgumentException.class, () -> posts.ribbon(0, 4, 0));
        CHECKS.refused(posts, "ribbon 20, one column", IllegalArgumentException.class, () -> posts.ribbon(0, 1, 1));
        CHECKS.refused(posts, "ribbon 20, no post", IndexOutOfBoundsException.class, () -> posts.ribbon(0, 16, 0));
        CHECKS.same("the last of 20", posts.ribbonOf(19, 2), 20);
        CHECKS.same("remove of the last", posts.remove(19), 20);
        CHECKS.same("ribbon after a removal", posts.ribbon(0, 4, 1), 19);
    }

    private static void widen() {
        RibbonPosts posts = Checks.drawn("ae5;bf6");
        CHECKS.same("widen to 0", posts.widen(0, 0), 5);
        CHECKS.same("widen from 0", posts.widen(0, 50), 0);
        CHECKS.same("widen the other", posts.widen(1, 7), 6);
        CHECKS.tells("widen", posts, "ae50;bf7");
        CHECKS.same("widen to the same", posts.widen(1, 7), 7);
        CHECKS.same("saved by widen", posts.count(9), 5);
        posts.undo();
        posts.undo();
        CHECKS.tells("undo of widen", posts, "ae50;bf6");
        for (int ribbon : new int[] {-1, 2, 20, Integer.MAX_VALUE, Integer.MIN_VALUE}) {
            CHECKS.refused(posts, "widen of " + ribbon, IndexOutOfBoundsException.class,
                    () -> posts.widen(ribbon, 51));
        }
        CHECKS.refused(posts, "widen to -1", IllegalArgumentException.class, () -> posts.widen(0, -1));
        CHECKS.refused(posts, "widen to 51", IllegalArgumentException.class, () -> posts.widen(1, 51));
    }

    private static void remove() {
        RibbonPosts posts = Checks.drawn("ae5;bf6;cg7");
        CHECKS.same("remove", posts.remove(1), 6);
        CHECKS.tells("remove", posts, "ae5;cg7");
        CHECKS.refused(posts, "remove of 2", IndexOutOfBoundsException.class, () -> posts.remove(2));
        CHECKS.refused(posts, "remove of -1", IndexOutOfBoundsException.class, () -> posts.remove(-1));
        CHECKS.same("remove the first", posts.remove(0), 5);
        CHECKS.same("remove the only one", posts.remove(0), 7);
        CHECKS.same("saved by remove", posts.count(9), 4);
        CHECKS.refused(posts, "remove of none", IndexOutOfBoundsException.class, () -> posts.remove(0));
        posts.undo();
        posts.undo();
        posts.undo();
        CHECKS.tells("undo of remove", posts, "ae5;bf6;cg7");
    }
}
