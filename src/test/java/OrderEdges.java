/** Promises 5 to 7: swap, sweep, order. */
final class OrderEdges {
    private static final int[] NO_POSTS = {-1, 16, Integer.MIN_VALUE, Integer.MAX_VALUE};
    private static final int[] NO_COLUMNS = {-1, 4, Integer.MIN_VALUE, Integer.MAX_VALUE};

    private final Edges edges;

    OrderEdges(Edges edges) {
        this.edges = edges;
    }

    void all() {
        swap();
        wrongSwap();
        sweep();
        order();
    }

    private static RibbonPosts crossed() {
        return Checks.drawn("af6;be9;cg2;ip1;jo3;em7");
    }

    private void swap() {
        edges.promise(5, "Exchanges the places of two posts of a column.", () -> {
            RibbonPosts posts = new RibbonPosts();
            posts.swap(4, 7);
            edges.same("the first and the last", Checks.places(posts, 1), 3120);
            posts.swap(5, 4);
            // e was at the place 3: places are exchanged, not numbers.
            edges.same("again", Checks.places(posts, 1), 1320);
            posts.swap(4, 5);
            posts.swap(7, 4);
            edges.same("back again", Checks.places(posts, 1), 123);
            edges.same("another column", Checks.places(posts, 0), 123);
        });
        edges.promise(5, "Undoable.", () -> edges.undoable(Edges::rich, "swap", posts -> posts.swap(5, 6)));
        edges.promise(5, "- `post`: 0 to 15", () -> {
            for (int post = 0; post <= 15; post++) {
                RibbonPosts posts = new RibbonPosts();
                posts.swap(post, post ^ 1);
                edges.same("place of " + post, posts.postOf(post, 0), post % 4 ^ 1);
            }
        });
        edges.promise(5, "- `other`: another post of the same column", () -> {
            for (int post = 0; post <= 15; post++) {
                for (int step = 1; step <= 3; step++) {
                    RibbonPosts posts = new RibbonPosts();
                    int other = post / 4 * 4 + (post + step) % 4;
                    posts.swap(post, other);
                    edges.same("place of " + other, posts.postOf(other, 0), post % 4);
                    edges.same("place of " + post, posts.postOf(post, 0), other % 4);
                }
            }
        });
        edges.promise(5, "Returns the crossings then, as count(2).", () -> {
            RibbonPosts posts = Checks.drawn("ae10;bf20");
            edges.same("swap", posts.swap(0, 1), 10);
            edges.same("count(2)", posts.count(2), 10);
            edges.same("swap of the ends too", posts.swap(4, 5), 0);
            edges.same("count(2) then", posts.count(2), 0);
            edges.same("swap without ribbons", new RibbonPosts().swap(0, 3), 0);
        });
    }

    private void wrongSwap() {
        edges.promise(5, "Throws `IndexOutOfBoundsException` if there is no such post", () -> {
            edges.refusedByAll(Edges::rich, "swap with 0", Edges.INDEX, NO_POSTS, (posts, no) -> posts.swap(0, no));
            edges.refusedByAll(Edges::rich, "swap with 15", Edges.INDEX, NO_POSTS, (posts, no) -> posts.swap(no, 15));
        });
        String argument = "Throws `IllegalArgumentException` if both are the same, or not in one column";
        edges.promise(5, argument, () -> {
            for (int post = 0; post <= 15; post++) {
                int same = post;
                edges.refused(Edges::rich, "swap of " + post + " twice", Edges.ARGUMENT, posts -> posts.swap(same, same));
            }
        });
        edges.promise(5, argument, () -> {
            int[][] pairs = {{3, 4}, {4, 3}, {7, 8}, {11, 12}, {0, 4}, {0, 15}, {15, 0}};
            for (int[] pair : pairs) {
                edges.refused(Edges::rich, "swap of " + pair[0] + " and " + pair[1], Edges.ARGUMENT,
                        posts -> posts.swap(pair[0], pair[1]));
            }
        });
    }

    private void sweep() {
        edges.promise(6, "Sweeps.", () -> {
            RibbonPosts posts = Checks.drawn("be1;af1;ei1;fj1;im1;jn1");
            posts.sweep();
            edges.same("state", Checks.state(posts), "be1;af1;ei1;fj1;im1;jn1 column 123 column 1023 column 1023 "
                    + "column 1023 trimmed 0");
            RibbonPosts empty = new RibbonPosts();
            empty.swap(9, 10);
            empty.sweep();
            edges.same("without ribbons all stays", Checks.places(empty, 2), 213);
        });
        edges.promise(6, "Undoable.", () -> {
            edges.undoable(OrderEdges::crossed, "sweep", RibbonPosts::sweep);
            edges.undoable(RibbonPosts::new, "sweep that changes nothing", RibbonPosts::sweep);
        });
        edges.promise(6, "Returns the crossings then, as count(2).", () -> {
            RibbonPosts posts = Checks.drawn("ae1;be1;af1;af1;bf1");
            edges.same("before", posts.count(2), 2);
            edges.same("sweep", posts.sweep(), 1);
            edges.same("count(2)", posts.count(2), 1);
            // A sweep can leave more than it found, since its means forget the widths.
            posts = Checks.drawn("ae50;de1;de1;bf50");
            edges.same("before the sweep that makes it worse", posts.count(2), 2);
            edges.same("sweep that makes it worse", posts.sweep(), 50);
            edges.same("sweep without ribbons", new RibbonPosts().sweep(), 0);
        });
    }

    private void order() {
        edges.promise(7, "Puts a column into its best order.", () -> {
            RibbonPosts posts = Checks.drawn("ag5;be5");
            edges.same("best order", posts.bestOrder(1), 1203);
            posts.order(1);
            // The order is g's turn round: f, g, e, h; so e has the place 2, f 0, g 1.
            edges.same("places", Checks.places(posts, 1), 2013);
            edges.same("the other columns", Checks.places(posts, 0), 123);
            RibbonPosts empty = new RibbonPosts();
            empty.swap(0, 2);
            empty.order(0);
            edges.same("without ribbons the first of all orders", Checks.places(empty, 0), 123);
        });
        edges.promise(7, "Undoable.", () -> {
            edges.undoable(OrderEdges::crossed, "order", posts -> posts.order(1));
            edges.undoable(RibbonPosts::new, "order that changes nothing", posts -> posts.order(3));
        });
        edges.promise(7, "- `column`: 0 to 3", () -> {
            String[] turned = {"de1;cf1;bg1;ah1", "ah1;bg1;cf1;de1", "el1;fk1;gj1;hi1", "ip1;jo1;kn1;lm1"};
            for (int column = 0; column <= 3; column++) {
                RibbonPosts posts = Checks.drawn(turned[column]);
                edges.same("order(" + column + ")", posts.order(column), 0);
                edges.same("places of the column " + column, Checks.places(posts, column), 3210);
            }
        });
        edges.promise(7, "Returns the crossings then, as count(2).", () -> {
            // c and d both go to g and h: either ch1 and dg9 cross, or cg2 and dh4.
            RibbonPosts posts = Checks.drawn("af6;be6;cg2;ch1;dg9;dh4");
            edges.same("order that mends nothing", posts.order(2), 7);
            edges.same("order that mends a part", posts.order(1), 1);
            edges.same("count(2)", posts.count(2), 1);
            posts.swap(0, 1);
            edges.same("order that mends what a swap did", posts.order(0), 1);
        });
        edges.promise(7, "Throws `IndexOutOfBoundsException` if there is no such column", () ->
            edges.refusedByAll(Edges::rich, "order", Edges.INDEX, NO_COLUMNS, RibbonPosts::order));
    }
}
