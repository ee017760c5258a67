/** Promises 1 to 4: a new object, ribbon, widen, remove. */
final class RibbonEdges {
    private static final int[] NO_POSTS = {-1, 16, Integer.MIN_VALUE, Integer.MAX_VALUE};

    private final Edges edges;

    RibbonEdges(Edges edges) {
        this.edges = edges;
    }

    void all() {
        newObject();
        ribbon();
        wrongRibbon();
        widen();
        remove();
    }

    private static RibbonPosts some() {
        return Checks.drawn("ae5;bf6;cg7");
    }

    private void newObject() {
        edges.promise(1, "Creates posts without ribbons, with empty slots and an empty buffer.", () -> {
            RibbonPosts posts = new RibbonPosts();
            edges.same("ribbons", posts.count(0), 0);
            edges.same("no ribbon 0", "" + Checks.outcome(() -> posts.ribbonOf(0, 0)), "" + Edges.INDEX);
            edges.same("slot 0", "" + Checks.outcome(() -> posts.goBack(0)), "" + Edges.STATE);
            edges.same("slot 1", "" + Checks.outcome(() -> posts.goBack(1)), "" + Edges.STATE);
            edges.same("saved", "" + Checks.outcome(() -> posts.undo()), "" + Edges.STATE);
            edges.same("trimmed", posts.count(8), 0);
            edges.same("buffer", posts.clearBuffer(), 0);
            edges.same("firstError", posts.firstError(), 0);
            edges.same("state", Checks.state(posts),
                    " column 123 column 123 column 123 column 123 trimmed 0");
        });
        edges.promise(1, "Creates posts without ribbons, with empty slots and an empty buffer.", () -> {
            // What another object holds is not in a new one.
            RibbonPosts other = Edges.rich();
            RibbonPosts posts = new RibbonPosts();
            edges.same("ribbons beside another object", posts.count(0), 0);
            edges.same("ribbons of the other one", other.count(0), 8);
        });
    }

    private void ribbon() {
        edges.promise(2, "Adds a ribbon.", () -> {
            RibbonPosts posts = new RibbonPosts();
            posts.ribbon(0, 15, 50);
            posts.ribbon(15, 0, 1);
            posts.ribbon(0, 15, 50);
            edges.same("ribbons", Checks.told(posts), "ap50;pa1;ap50");
        });
        edges.promise(2, "Undoable.", () -> {
            edges.undoable(RibbonPosts::new, "ribbon", posts -> posts.ribbon(0, 4, 1));
            edges.undoable(Edges::rich, "ribbon", posts -> posts.ribbon(0, 4, 1));
        });
        edges.promise(2, "- `from`: 0 to 15", () -> {
            for (int from = 0; from <= 15; from++) {
                RibbonPosts posts = new RibbonPosts();
                edges.same("ribbon", posts.ribbon(from, (from + 4) % 16, 1), 0);
                edges.same("from", posts.ribbonOf(0, 0), from);
            }
        });
        edges.promise(2, "- `to`: 0 to 15, in another column", () -> {
            for (int to = 0; to <= 15; to++) {
                RibbonPosts posts = new RibbonPosts();
                edges.same("ribbon", posts.ribbon((to + 8) % 16, to, 1), 0);
                edges.same("to", posts.ribbonOf(0, 1), to);
            }
        });
        edges.promise(2, "- `width`: 1 to 50", () -> {
            for (int width = 1; width <= 50; width++) {
                RibbonPosts posts = new RibbonPosts();
                edges.same("ribbon", posts.ribbon(3, 4, width), 0);
                edges.same("width", posts.ribbonOf(0, 2), width);
            }
        });
        edges.promise(2, "Returns its number.", () -> {
            RibbonPosts posts = new RibbonPosts();
            for (int number = 0; number < 20; number++) {
                edges.same("number", posts.ribbon(3, 4, 1), number);
            }
            posts.remove(5);
            edges.same("number after a removal", posts.ribbon(3, 4, 1), 19);
        });
    }

    private void wrongRibbon() {
        edges.promise(2, "Throws `IndexOutOfBoundsException` if there is no such post", () -> {
            edges.refusedByAll(RibbonEdges::some, "from", Edges.INDEX, NO_POSTS, (posts, no) -> posts.ribbon(no, 4, 1));
            edges.refusedByAll(RibbonEdges::some, "to", Edges.INDEX, NO_POSTS, (posts, no) -> posts.ribbon(4, no, 1));
            edges.refusedByAll(RibbonEdges::some, "both", Edges.INDEX, NO_POSTS, (posts, no) -> posts.ribbon(no, no, 1));
        });
        String argument = "Throws `IllegalArgumentException` if both are in one column, or width is out of range";
        edges.promise(2, argument, () -> {
            int[][] pairs = {{0, 0}, {0, 3}, {3, 0}, {4, 7}, {11, 8}, {12, 15}, {15, 15}};
            for (int[] pair : pairs) {
                edges.refused(RibbonEdges::some, "ribbon from " + pair[0] + " to " + pair[1], Edges.ARGUMENT,
                        posts -> posts.ribbon(pair[0], pair[1], 1));
            }
        });
        edges.promise(2, argument, () ->
            edges.refusedByAll(RibbonEdges::some, "width", Edges.ARGUMENT,
                    new int[] {0, 51, -1, Integer.MIN_VALUE, Integer.MAX_VALUE},
                    (posts, width) -> posts.ribbon(3, 4, width)));
        edges.promise(2, "Throws `IllegalStateException` if there are 20", () -> {
            edges.refused(Edges::full, "the 21st", Edges.STATE, posts -> posts.ribbon(0, 4, 1));
            RibbonPosts posts = Edges.full();
            posts.remove(19);
            edges.same("the 20th", posts.ribbon(0, 4, 1), 19);
            posts.undo();
            edges.same("the 20th after undo", posts.ribbon(0, 4, 1), 19);
            edges.same("the 21st then", "" + Checks.outcome(() -> posts.ribbon(0, 4, 1)), "" + Edges.STATE);
        });
    }

    private void widen() {
        edges.promise(3, "Changes the width of a ribbon.", () -> {
            RibbonPosts posts = some();
            posts.widen(1, 50);
            edges.same("ribbons", Checks.told(posts), "ae5;bf50;cg7");
        });
        edges.promise(3, "Undoable.", () -> {
            edges.undoable(Edges::rich, "widen", posts -> posts.widen(0, 1));
            edges.undoable(Edges::rich, "widen to the same", posts -> posts.widen(0, 9));
        });
        edges.promise(3, "- `ribbon`: its number", () -> {
            RibbonPosts posts = Edges.full();
            for (int ribbon = 0; ribbon < 20; ribbon++) {
                edges.same("widen", posts.widen(ribbon, 50 - ribbon), 1 + ribbon);
            }
            edges.same("the first", posts.ribbonOf(0, 2), 50);
            edges.same("the last", posts.ribbonOf(19, 2), 31);
        });
        edges.promise(3, "- `width`: 0 to 50", () -> {
            RibbonPosts posts = some();
            for (int width = 0; width <= 50; width++) {
                posts.widen(2, width);
                edges.same("width", posts.ribbonOf(2, 2), width);
            }
        });
        edges.promise(3, "Returns the width before.", () -> {
            RibbonPosts posts = some();
            edges.same("widen to 0", posts.widen(0, 0), 5);
            edges.same("widen from 0", posts.widen(0, 50), 0);
            edges.same("widen to the same", posts.widen(0, 50), 50);
        });
        edges.promise(3, "Throws `IndexOutOfBoundsException` if there is no such ribbon", () -> {
            int[] none = {-1, 3, 19, 20, Integer.MIN_VALUE, Integer.MAX_VALUE};
            edges.refusedByAll(RibbonEdges::some, "widen", Edges.INDEX, none, (posts, no) -> posts.widen(no, 1));
            edges.refused(RibbonPosts::new, "widen of none", Edges.INDEX, posts -> posts.widen(0, 1));
            edges.refused(Edges::full, "widen of 20", Edges.INDEX, posts -> posts.widen(20, 1));
        });
        edges.promise(3, "Throws `IllegalArgumentException` if width is out of range", () ->
            edges.refusedByAll(RibbonEdges::some, "widen", Edges.ARGUMENT,
                    new int[] {-1, 51, Integer.MIN_VALUE, Integer.MAX_VALUE}, (posts, width) -> posts.widen(2, width)));
    }

    private void asNeverThere(String text) {
        RibbonPosts without = new RibbonPosts();
        RibbonPosts removed = Checks.drawn(text);
        int last = removed.count(0) - 1;
        for (int ribbon = 0; ribbon < last; ribbon++) {
            without.ribbon(removed.ribbonOf(ribbon, 0), removed.ribbonOf(ribbon, 1), removed.ribbonOf(ribbon, 2));
        }
        removed.remove(last);
        sixSaved(without);
        sixSaved(removed);
        edges.same("digest without the last of " + text, removed.digest(), without.digest());
        for (int column = 0; column <= 3; column++) {
            edges.same("order without the last of " + text, removed.order(column), without.order(column));
        }
        edges.same("sweep without the last of " + text, removed.sweep(), without.sweep());
        edges.same("settle without the last of " + text, removed.settle(), without.settle());
        edges.same("state without the last of " + text, Checks.state(removed), Checks.state(without));
    }

    /** An even number of swaps, so that the order stays. */
    private static void sixSaved(RibbonPosts posts) {
        for (int call = 0; call < 6; call++) {
            posts.swap(0, 1);
        }
    }

    private void remove() {
        String takes = "Takes a ribbon away; those behind it get numbers that are 1 less.";
        edges.promise(4, takes, () -> {
            RibbonPosts posts = Checks.drawn("ae5;fb6;cg7;dp8");
            posts.remove(1);
            edges.same("without 1", Checks.told(posts), "ae5;cg7;dp8");
            posts.remove(2);
            edges.same("without the last", Checks.told(posts), "ae5;cg7");
            posts.remove(0);
            edges.same("without the first", Checks.told(posts), "cg7");
            posts.remove(0);
            edges.same("without the only one", Checks.told(posts), "");
        });
        edges.promise(4, takes, () -> {
            RibbonPosts posts = Edges.full();
            posts.remove(0);
            edges.same("ribbons", posts.count(0), 19);
            edges.same("the last of 20", posts.ribbonOf(18, 2), 20);
            edges.same("no 19 then", "" + Checks.outcome(() -> posts.ribbonOf(19, 2)), "" + Edges.INDEX);
        });
        edges.promise(4, takes, () -> {
            // The last one crosses, widens, leads through; without it all is as if it had never been.
            asNeverThere("be5;cf6;cj4;fn3;af9");
            asNeverThere("ae1;bf1;ei1;ch1;dg1");
            asNeverThere("ah5;be5");
            asNeverThere("be5;ce6;af9");
            asNeverThere("am3;bn2;bm1;do9");
            asNeverThere("am3;ei2;pa9");
            asNeverThere("ae5");
        });
        edges.promise(4, "Undoable.", () -> {
            edges.undoable(Edges::rich, "remove", posts -> posts.remove(0));
            edges.undoable(Edges::full, "remove of the last", posts -> posts.remove(19));
        });
        edges.promise(4, "- `ribbon`: its number", () -> {
            for (int ribbon = 0; ribbon < 20; ribbon++) {
                RibbonPosts posts = Edges.full();
                edges.same("remove", posts.remove(ribbon), 1 + ribbon);
                edges.same("widths", posts.count(1), 210 - 1 - ribbon);
            }
        });
        edges.promise(4, "Returns its width.", () -> {
            RibbonPosts posts = Checks.drawn("ae50;bf1;cg1");
            posts.widen(2, 0);
            edges.same("width 0", posts.remove(2), 0);
            edges.same("width 50", posts.remove(0), 50);
            edges.same("width 1", posts.remove(0), 1);
        });
        edges.promise(4, "Throws `IndexOutOfBoundsException` if there is no such ribbon", () -> {
            int[] none = {-1, 3, 19, 20, Integer.MIN_VALUE, Integer.MAX_VALUE};
            edges.refusedByAll(RibbonEdges::some, "remove", Edges.INDEX, none, RibbonPosts::remove);
            edges.refused(RibbonPosts::new, "remove of none", Edges.INDEX, posts -> posts.remove(0));
            edges.refused(Edges::full, "remove of 20", Edges.INDEX, posts -> posts.remove(20));
        });
    }
}
