/** Promises 5 to 7, 20 and 21: swap, sweep, order, ifSwapped, bestOrder. */
final class OrdersTest {
    private static final Checks CHECKS = new Checks();

    public static void main(String[] args) {
        swap();
        wrongSwaps();
        sweepByFractions();
        sweepInOrder();
        sweepWhatCounts();
        sweepColumnByColumn();
        bestOrder();
        bestOrderOfSeveral();
        order();
        CHECKS.end();
    }

    private static void swap() {
        RibbonPosts posts = Checks.drawn("ae10;bf20;dh3");
        CHECKS.same("ifSwapped(0, 1)", posts.ifSwapped(0, 1), 10);
        CHECKS.same("ifSwapped(3, 0)", posts.ifSwapped(3, 0), 16);
        CHECKS.same("count(2) after ifSwapped", posts.count(2), 0);
        CHECKS.same("saved after ifSwapped", posts.count(9), 1);
        CHECKS.same("places after ifSwapped", Checks.places(posts, 0), 123);
        CHECKS.same("swap(0, 1)", posts.swap(0, 1), 10);
        CHECKS.same("places after swap", Checks.places(posts, 0), 1023);
        CHECKS.same("count(2) after swap", posts.count(2), 10);
        CHECKS.same("swap(7, 4)", posts.swap(7, 4), 6);
        CHECKS.same("places after swap(7, 4)", Checks.places(posts, 1), 3120);
        CHECKS.same("saved by swap", posts.count(9), 3);
        CHECKS.same("swap(13, 14)", posts.swap(13, 14), 6);
        posts.undo();
        posts.undo();
        CHECKS.same("places after undo", Checks.places(posts, 1), 123);
        CHECKS.same("swap back", posts.swap(1, 0), 0);
    }

    private static void wrongSwaps() {
        RibbonPosts posts = Checks.drawn("af10;be20");
        int[][] noPost = {{-1, 0}, {0, -1}, {16, 15}, {15, 16}, {16, 16}, {-1, -1}};
        for (int[] pair : noPost) {
            String told = "(" + pair[0] + ", " + pair[1] + ")";
            CHECKS.refused(posts, "swap" + told, IndexOutOfBoundsException.class,
                    () -> posts.swap(pair[0], pair[1]));
            CHECKS.refused(posts, "ifSwapped" + told, IndexOutOfBoundsException.class,
                    () -> posts.ifSwapped(pair[0], pair[1]));
        }
        int[][] unfit = {{0, 0}, {15, 15}, {3, 4}, {4, 3}, {0, 15}, {11, 12}};
        for (int[] pair : unfit) {
            String told = "(" + pair[0] + ", " + pair[1] + ")";
            CHECKS.refused(posts, "swap" + told, IllegalArgumentException.class,
                    () -> posts.swap(pair[0], pair[1]));
            CHECKS.refused(posts, "ifSwapped" + told, IllegalArgumentException.class,
                    () -> posts.ifSwapped(pair[0], pair[1]));
        }
    }

    /** The means are 1/2 and 1/3: rounded down, both would be 0. */
    private static void sweepByFractions() {
        RibbonPosts posts = Checks.drawn("ae1;be1;af1;af1;bf1");
        CHECKS.same("sweep by fractions", posts.sweep(), 1);
        CHECKS.same("places by fractions", Checks.places(posts, 1), 1023);
        CHECKS.same("count(2) after the sweep", posts.count(2), 1);
        CHECKS.same("saved by sweep", posts.count(9), 2);
        posts.undo();
        CHECKS.same("places after undo", Checks.places(posts, 1), 123);
    }

    private static void sweepInOrder() {
        RibbonPosts posts = Checks.drawn("be1;bf1;ag1");
        posts.swap(4, 5);
        posts.sweep();
        // f and e have the mean 1, in this order; h keeps its own place as its mean.
        CHECKS.same("several with one mean", Checks.places(posts, 1), 2103);
        posts = Checks.drawn("dh1;ce1");
        posts.sweep();
        // f has its own place 1, e and g have 2, and e stood before g.
        CHECKS.same("own places", Checks.places(posts, 1), 1023);
        posts = Checks.drawn("cf1");
        posts.swap(4, 5);
        posts.sweep();
        // e has its own place 1, as it stood; f has 2 and stood before g.
        CHECKS.same("own places as they stood", Checks.places(posts, 1), 123);
        posts = new RibbonPosts();
        posts.swap(4, 7);
        CHECKS.same("sweep without ribbons", posts.sweep(), 0);
        CHECKS.same("places without ribbons", Checks.places(posts, 1), 3120);
        CHECKS.same("saved by a sweep that changes nothing", posts.count(9), 2);
    }

    private static void sweepWhatCounts() {
        RibbonPosts posts = Checks.drawn("ae50;de1;bf7");
        posts.sweep();
        // The mean of e is 3/2, whatever the widths are.
        CHECKS.same("widths count nothing", Checks.places(posts, 1), 1023);
        posts = Checks.drawn("be1;af1");
        posts.widen(1, 0);
        posts.sweep();
        CHECKS.same("a ribbon with the width 0 counts", Checks.places(posts, 1), 1023);
        posts = Checks.drawn("le9;if9;ea4;pa3");
        posts.sweep();
        CHECKS.same("ribbons back count nothing", Checks.places(posts, 1), 123);
        CHECKS.same("the column 0 stays", Checks.places(posts, 0), 123);
        posts = Checks.drawn("bi2;aj2;dm1;an1");
        posts.sweep();
        CHECKS.same("ribbons over columns", Checks.places(posts, 2), 1023);
        // m has 3, n has 0, o and p have 2 and 3: n, o, m, p.
        CHECKS.same("ribbons over columns, last", Checks.places(posts, 3), 2013);
    }

    private static void sweepColumnByColumn() {
        RibbonPosts posts = Checks.drawn("be1;af1;ei1;fj1;im1;jn1");
        CHECKS.same("one sweep for all columns", posts.sweep(), 0);
        CHECKS.same("column 1", Checks.places(posts, 1), 1023);
        CHECKS.same("column 2", Checks.places(posts, 2), 1023);
        CHECKS.same("column 3", Checks.places(posts, 3), 1023);
    }

    private static void bestOrder() {
        RibbonPosts posts = Checks.drawn("af10;be20");
        CHECKS.same("bestOrder(0)", posts.bestOrder(0), 1023);
        CHECKS.same("bestOrder(1)", posts.bestOrder(1), 1023);
        CHECKS.same("bestOrder(2)", posts.bestOrder(2), 123);
        CHECKS.same("bestOrder(3)", posts.bestOrder(3), 123);
        CHECKS.same("count(2) after bestOrder", posts.count(2), 10);
        CHECKS.same("saved after bestOrder", posts.count(9), 1);
        posts = Checks.drawn("dm1;cn1;bo1;ap1");
        CHECKS.same("bestOrder turned round", posts.bestOrder(3), 3210);
        // Both sides of a column count: 3 for e before f, 5 for f before e.
        posts = Checks.drawn("af3;be9;ei5;fj8");
        CHECKS.same("bestOrder by widths", posts.bestOrder(1), 123);
        posts.widen(0, 6);
        CHECKS.same("bestOrder by other widths", posts.bestOrder(1), 1023);
        posts.widen(0, 5);
        CHECKS.same("bestOrder, the first one", posts.bestOrder(1), 123);
        for (int column : new int[] {-1, 4, Integer.MAX_VALUE, Integer.MIN_VALUE}) {
            RibbonPosts same = posts;
            CHECKS.refused(posts, "bestOrder(" + column + ")", IndexOutOfBoundsException.class,
                    () -> same.bestOrder(column));
            CHECKS.refused(posts, "order(" + column + ")", IndexOutOfBoundsException.class,
                    () -> same.order(column));
        }
    }

    /** The first order is told by the posts at the places, not by the places of the posts. */
    private static void bestOrderOfSeveral() {
        RibbonPosts posts = Checks.drawn("ag5;be5");
        CHECKS.same("g before e", posts.bestOrder(1), 1203);
        posts.order(1);
        CHECKS.same("places of g before e", Checks.places(posts, 1), 2013);
        posts = new RibbonPosts();
        posts.swap(8, 11);
        CHECKS.same("bestOrder without ribbons", posts.bestOrder(2), 123);
    }

    private static void order() {
        RibbonPosts posts = Checks.drawn("af10;be20;em4;fm4");
        posts.swap(6, 7);
        CHECKS.same("order(1)", posts.order(1), 0);
        CHECKS.same("places after order(1)", Checks.places(posts, 1), 1023);
        CHECKS.same("saved by order", posts.count(9), 3);
        posts.undo();
        CHECKS.same("places after undo", Checks.places(posts, 1), 132);
        CHECKS.same("order(0)", posts.order(0), 0);
        CHECKS.same("places after order(0)", Checks.places(posts, 0), 1023);
        CHECKS.same("order of a column that stays", posts.order(3), 0);
        posts = Checks.drawn("af6;be6;cg2;ch1;dg9");
        // Only c and d, or g and h, still cross.
        CHECKS.same("order leaves what it can't mend", posts.order(2), 7);
        CHECKS.same("order of one end", posts.order(0), 0);
    }
}
