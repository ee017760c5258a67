/** Promises 8, 9, 22 and 24: trim, settle, ifSettled, height. */
final class WidthEdges {
    private static final int[] NO_COLUMNS = {-1, 4, Integer.MIN_VALUE, Integer.MAX_VALUE};
    private static final int[] NO_INNER = {-1, 0, 3, 12, 15, 16, Integer.MIN_VALUE, Integer.MAX_VALUE};

    private final Edges edges;

    WidthEdges(Edges edges) {
        this.edges = edges;
    }

    void all() {
        trim();
        settle();
        ifSettled();
        height();
    }

    private static RibbonPosts uneven() {
        return Checks.drawn("ae10;ei8;in3;ia50");
    }

    private void trim() {
        edges.promise(8, "Trims an inner post.", () -> {
            RibbonPosts posts = uneven();
            posts.trim(4);
            edges.same("ribbons after trim(4)", Checks.told(posts), "ae8;ei8;in3;ia50");
            posts.trim(8);
            edges.same("ribbons after trim(8)", Checks.told(posts), "ae8;ei3;in3;ia50");
            posts.trim(11);
            edges.same("ribbons after trim(11)", Checks.told(posts), "ae8;ei3;in3;ia50");
        });
        edges.promise(8, "Undoable.", () -> {
            edges.undoable(WidthEdges::uneven, "trim", posts -> posts.trim(4));
            edges.undoable(WidthEdges::uneven, "trim that changes nothing", posts -> posts.trim(11));
        });
        edges.promise(8, "- `post`: 4 to 11", () -> {
            for (int post = 4; post <= 11; post++) {
                RibbonPosts posts = new RibbonPosts();
                posts.ribbon(0, post, 7);
                edges.same("trim(" + post + ")", posts.trim(post), 7);
                edges.same("width", posts.ribbonOf(0, 2), 0);
            }
        });
        edges.promise(8, "Returns how much is trimmed.", () -> {
            RibbonPosts posts = Checks.drawn("ae10;be7;ei5;ej50");
            edges.same("trim of what leaves", posts.trim(4), 38);
            edges.same("trim of an even post", posts.trim(4), 0);
            edges.same("trim of a post without ribbons", posts.trim(7), 0);
            edges.same("trim of what comes in", posts.trim(8), 5);
        });
        edges.promise(8, "Throws `IndexOutOfBoundsException` if there is no such inner post", () -> {
            edges.refusedByAll(WidthEdges::uneven, "trim", Edges.INDEX, NO_INNER, RibbonPosts::trim);
            edges.refusedByAll(Edges::full, "trim", Edges.INDEX, NO_INNER, RibbonPosts::trim);
        });
    }

    private void settle() {
        edges.promise(9, "Settles.", () -> {
            RibbonPosts posts = uneven();
            posts.settle();
            edges.same("ribbons", Checks.told(posts), "ae3;ei3;in3;ia50");
            edges.same("trimmed", posts.count(8), 12);
            RibbonPosts direct = Checks.drawn("ap50;bm1;pa9");
            direct.settle();
            edges.same("ribbons beside the inner posts", Checks.told(direct), "ap50;bm1;pa9");
        });
        edges.promise(9, "Undoable.", () -> {
            edges.undoable(WidthEdges::uneven, "settle", RibbonPosts::settle);
            edges.undoable(RibbonPosts::new, "settle that changes nothing", RibbonPosts::settle);
        });
        edges.promise(9, "Returns how much is trimmed.", () -> {
            RibbonPosts posts = uneven();
            edges.same("settle", posts.settle(), 12);
            edges.same("settle again", posts.settle(), 0);
            edges.same("settle without ribbons", new RibbonPosts().settle(), 0);
            posts = new RibbonPosts();
            for (int ribbon = 0; ribbon < 20; ribbon++) {
                posts.ribbon(ribbon % 4, 4 + ribbon % 8, 50);
            }
            edges.same("settle of all that there can be", posts.settle(), 1000);
            edges.same("trimmed so far", posts.count(8), 1000);
        });
    }

    private void ifSettled() {
        edges.promise(22, "Tells how much settling would trim.", () -> {
            RibbonPosts posts = uneven();
            edges.same("ifSettled", posts.ifSettled(), 12);
            edges.same("trimmed", posts.count(8), 0);
            edges.same("ribbons", Checks.told(posts), "ae10;ei8;in3;ia50");
            edges.same("settle", posts.settle(), 12);
        });
        edges.promise(22, "Tells how much settling would trim.", () -> {
            // How much more, not how much in all.
            RibbonPosts posts = uneven();
            posts.trim(4);
            edges.same("ifSettled after a trim", posts.ifSettled(), 10);
        });
        edges.promise(22, "Returns how much.", () -> {
            RibbonPosts posts = uneven();
            posts.settle();
            edges.same("ifSettled when all are even", posts.ifSettled(), 0);
            edges.same("ifSettled without ribbons", new RibbonPosts().ifSettled(), 0);
            edges.same("ifSettled of one ribbon", Checks.drawn("lp50").ifSettled(), 50);
            edges.changesNothing(WidthEdges::uneven, "ifSettled", RibbonPosts::ifSettled);
        });
    }

    private void height() {
        edges.promise(24, "Tells how high the drawing is.", () -> {
            RibbonPosts posts = Checks.drawn("ae10;bf7;ei5;fi1;pa9;fp20");
            int[] due = {17, 10 + 21, 6, 20};
            for (int column = 0; column <= 3; column++) {
                edges.same("height(" + column + ")", posts.height(column), due[column]);
                edges.same("height without ribbons", new RibbonPosts().height(column), 0);
            }
        });
        edges.promise(24, "- `column`: 0 to 3", () -> {
            String[] texts = {"am1;bn2;co3;dp4", "em1;fn2;go3;hp4", "im1;jn2;ko3;lp4", "dm1;cn2;bo3;ap4"};
            for (int column = 0; column <= 3; column++) {
                edges.same("height(" + column + ")", Checks.drawn(texts[column]).height(column), 10);
            }
        });
        edges.promise(24, "Returns the sum of postOf(.., 7) of its posts.", () -> {
            RibbonPosts posts = Edges.rich();
            for (int column = 0; column <= 3; column++) {
                int sum = 0;
                for (int number = 0; number < 4; number++) {
                    sum += posts.postOf(4 * column + number, 7);
                }
                edges.same("height(" + column + ")", posts.height(column), sum);
            }
            // The greater one of each post, not of the column: 9 and 8, though 9 come in and 8 leave.
            edges.same("greater ones of two posts", Checks.drawn("ae9;fi8").height(1), 17);
        });
        edges.promise(24, "Throws `IndexOutOfBoundsException` if there is no such column", () ->
            edges.refusedByAll(Edges::rich, "height", Edges.INDEX, NO_COLUMNS, RibbonPosts::height));
    }
}
