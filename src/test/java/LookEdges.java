/** Promises 17 to 19: postOf, ribbonOf, count. */
final class LookEdges {
    private static final int[] NO_POSTS = {-1, 16, Integer.MIN_VALUE, Integer.MAX_VALUE};

    private final Edges edges;

    LookEdges(Edges edges) {
        this.edges = edges;
    }

    void all() {
        postOf();
        postProperties();
        wrongPostOf();
        ribbonOf();
        wrongRibbonOf();
        countRibbons();
        countCrossings();
        countThrough();
        wrongCount();
    }

    private void postAllOf(RibbonPosts posts, int post, int... due) {
        for (int what = 0; what <= 7; what++) {
            edges.same("postOf(" + post + ", " + what + ")", posts.postOf(post, what), due[what]);
        }
    }

    private void postOf() {
        edges.promise(17, "Returns a property of a post.", () -> {
            RibbonPosts posts = Checks.drawn("ae10;be7;ei5;ep4;ie9;ea3;im5;jn8");
            postAllOf(posts, 0, 0, 0, 10, 0, 1, 1, 1, 10);
            postAllOf(posts, 4, 0, 17, 9, 2, 2, 2, 0, 17);
            postAllOf(posts, 8, 0, 5, 5, 1, 1, 1, 1, 5);
            postAllOf(posts, 9, 1, 0, 8, 0, 1, 0, 0, 8);
            postAllOf(posts, 15, 3, 4, 0, 1, 0, 0, 1, 4);
        });
        edges.promise(17, "- `post`: 0 to 15", () -> {
            RibbonPosts posts = new RibbonPosts();
            for (int post = 0; post <= 15; post++) {
                postAllOf(posts, post, post % 4, 0, 0, 0, 0, 0, 1, 0);
            }
        });
        edges.promise(17, "Returns the property.", () -> {
            RibbonPosts posts = Checks.drawn("pa50;ap50;ap50");
            postAllOf(posts, 0, 0, 0, 100, 0, 2, 1, 1, 100);
            postAllOf(posts, 15, 3, 100, 0, 2, 0, 1, 1, 100);
        });
    }

    private void postProperty(String sentence, int what, String text, int... due) {
        edges.promise(17, sentence, () -> {
            RibbonPosts posts = Checks.drawn(text);
            posts.swap(4, 6);
            for (int index = 0; index < due.length; index += 2) {
                edges.same("postOf(" + due[index] + ", " + what + ")", posts.postOf(due[index], what), due[index + 1]);
            }
        });
    }

    private void postProperties() {
        postProperty("- `what`: 0: its place", 0, "ae1", 0, 0, 3, 3, 4, 2, 5, 1, 6, 0, 7, 3, 12, 0, 15, 3);
        postProperty("1: what comes in", 1, "ae50;be50;ce50;de50;ae50;ea9;ie9;em8;dp1", 4, 250, 0, 0, 12, 8, 15, 1, 8, 0);
        postProperty("2: what leaves", 2, "ei50;ej50;ek50;el50;em50;en1;ea9;ie9;ae8;dp1", 4, 251, 0, 8, 12, 0, 15, 0, 8, 0);
        postProperty("3: ribbons that go on to it", 3, "ae1;ae50;be1;ie1;pe1;ei1;ap1", 4, 3, 0, 0, 8, 1, 15, 1);
        postProperty("4: ribbons that go on from it", 4, "ei1;ei50;em1;ea1;ie1;ae1;ap1", 4, 3, 0, 2, 8, 0, 15, 0);
        postProperty("5: ribbons that go back to it or from it", 5, "ea1;ea50;ie1;pe1;ae1;ei1;pa1", 4, 4, 0, 3, 8, 1, 15, 2);
        postProperty("6: 1 if it is even, or not an inner post, otherwise 0", 6, "dp9;de5;di5;em6;im5;lp1",
                3, 1, 15, 1, 12, 1, 4, 0, 5, 1, 7, 1, 8, 1, 11, 0);
        postProperty("7: the greater one of 1 and 2", 7, "ae5;em6;bf6;fn5;cg5;go5", 4, 6, 5, 6, 6, 5, 7, 0, 0, 5, 12, 6);
        edges.promise(17, "3: ribbons that go on to it", () -> {
            RibbonPosts posts = Checks.drawn("ae1;ei1;ia1");
            posts.widen(0, 0);
            posts.widen(1, 0);
            posts.widen(2, 0);
            postAllOf(posts, 4, 0, 0, 0, 1, 1, 0, 1, 0);
            postAllOf(posts, 8, 0, 0, 0, 1, 0, 1, 1, 0);
        });
    }

    private void wrongPostOf() {
        edges.promise(17, "Throws `IndexOutOfBoundsException` if there is no such post", () -> {
            edges.refusedByAll(Edges::rich, "postOf", Edges.INDEX, NO_POSTS, (posts, no) -> posts.postOf(no, 0));
            edges.refusedByAll(Edges::rich, "postOf", Edges.INDEX, NO_POSTS, (posts, no) -> posts.postOf(no, 7));
        });
        edges.promise(17, "Throws `IllegalArgumentException` if what is not 0 to 7", () -> {
            int[] wrong = {-1, 8, 9, Integer.MIN_VALUE, Integer.MAX_VALUE};
            edges.refusedByAll(Edges::rich, "postOf(0)", Edges.ARGUMENT, wrong, (posts, what) -> posts.postOf(0, what));
            edges.refusedByAll(Edges::rich, "postOf(15)", Edges.ARGUMENT, wrong, (posts, what) -> posts.postOf(15, what));
        });
    }

    private void ribbonProperty(String sentence, int what, String text, int... due) {
        edges.promise(18, sentence, () -> {
            RibbonPosts posts = Checks.drawn(text);
            for (int ribbon = 0; ribbon < due.length; ribbon++) {
                edges.same("ribbonOf(" + ribbon + ", " + what + ")", posts.ribbonOf(ribbon, what), due[ribbon]);
            }
        });
    }

    private void ribbonOf() {
        ribbonProperty("Returns a property of a ribbon.", 2, "ap50;pa1", 50, 1);
        edges.promise(18, "- `ribbon`: its number", () -> {
            RibbonPosts posts = Edges.full();
            for (int ribbon = 0; ribbon < 20; ribbon++) {
                edges.same("ribbonOf(" + ribbon + ", 2)", posts.ribbonOf(ribbon, 2), 1 + ribbon);
            }
        });
        ribbonProperty("- `what`: 0: from which post", 0, "ap50;pa1;de2", 0, 15, 3);
        ribbonProperty("1: to which one it goes", 1, "ap50;pa1;de2", 15, 0, 4);
        ribbonProperty("2: its width", 2, "ap50;pa1;de2", 50, 1, 2);
        ribbonProperty("3: 1 if it goes on, 0 if it goes back", 3, "ap50;pa1;de2;ed2;hi1;ih1;lm1;ml1", 1, 0, 1, 0, 1, 0, 1, 0);
        ribbonProperty("4: how many ribbons cross it, whatever their widths are", 4, "ah9;be3;cg2;ha4;eb5;am7;bn1",
                2, 1, 1, 0, 0, 0, 0);
        edges.promise(18, "4: how many ribbons cross it, whatever their widths are", () -> {
            RibbonPosts posts = Checks.drawn("ah9;be3;cg2");
            posts.widen(1, 0);
            edges.same("one of them with the width 0", posts.ribbonOf(0, 4), 2);
            posts.widen(0, 0);
            edges.same("itself with the width 0", posts.ribbonOf(0, 4), 2);
            RibbonPosts full = new RibbonPosts();
            full.ribbon(3, 4, 1);
            for (int ribbon = 1; ribbon < 20; ribbon++) {
                full.ribbon(0, 7, 1);
            }
            edges.same("all the others", full.ribbonOf(0, 4), 19);
            edges.same("one of 19 that are the same", full.ribbonOf(19, 4), 1);
        });
        ribbonProperty("Returns the property.", 0, "de2;ap50", 3, 0);
    }

    private void wrongRibbonOf() {
        edges.promise(18, "Throws `IndexOutOfBoundsException` if there is no such ribbon", () -> {
            int[] none = {-1, 8, 19, 20, Integer.MIN_VALUE, Integer.MAX_VALUE};
            edges.refusedByAll(Edges::rich, "ribbonOf", Edges.INDEX, none, (posts, no) -> posts.ribbonOf(no, 0));
            edges.refused(RibbonPosts::new, "ribbonOf of none", Edges.INDEX, posts -> posts.ribbonOf(0, 0));
            edges.refused(Edges::full, "ribbonOf of 20", Edges.INDEX, posts -> posts.ribbonOf(20, 4));
        });
        edges.promise(18, "Throws `IllegalArgumentException` if what is not 0 to 4", () -> {
            int[] wrong = {-1, 5, 6, Integer.MIN_VALUE, Integer.MAX_VALUE};
            edges.refusedByAll(Edges::rich, "ribbonOf", Edges.ARGUMENT, wrong, (posts, what) -> posts.ribbonOf(7, what));
        });
    }

    private void counted(String sentence, int what, String text, int due) {
        edges.promise(19, sentence, () ->
            edges.same("count(" + what + ") of " + text, Checks.drawn(text).count(what), due));
    }

    private void countRibbons() {
        counted("Returns a number.", 0, "ae1", 1);
        edges.promise(19, "Returns the number.", () -> {
            for (int what = 0; what <= 9; what++) {
                edges.same("count(" + what + ") without ribbons", new RibbonPosts().count(what), 0);
            }
        });
        edges.promise(19, "- `what`: 0: ribbons", () -> {
            edges.same("20", Edges.full().count(0), 20);
            RibbonPosts posts = Checks.drawn("ae1;ea1");
            posts.widen(0, 0);
            edges.same("one with the width 0 and one back", posts.count(0), 2);
        });
        counted("1: their widths together", 1, "ae50;ea50;ap1", 101);
        edges.promise(19, "1: their widths together", () -> edges.same("of 20", Edges.full().count(1), 210));
        counted("5: inner posts that are not even", 5, "ap9;dp5;pa5", 0);
        counted("5: inner posts that are not even", 5, "de1;df1;dg1;dh1;im1;jm1;km1;lm1", 8);
        counted("5: inner posts that are not even", 5, "de5;em5;dh1;im1", 2);
        edges.promise(19, "8: trimmed so far", () -> {
            RibbonPosts posts = Checks.drawn("ae10;ei8;in3");
            posts.trim(4);
            edges.same("after a trim", posts.count(8), 2);
            posts.settle();
            edges.same("after settling", posts.count(8), 12);
            Checks.load(posts, "bf50");
            edges.same("after a load", posts.count(8), 12);
            posts.settle();
            edges.same("after settling again", posts.count(8), 62);
            posts.ifSettled();
            posts.widen(0, 50);
            posts.widen(0, 1);
            edges.same("widening is no trimming", posts.count(8), 62);
        });
        edges.promise(19, "9: saved states", () -> {
            RibbonPosts posts = new RibbonPosts();
            for (int call = 1; call <= 8; call++) {
                posts.sweep();
                edges.same("after " + call, posts.count(9), Math.min(call, 6));
            }
            posts.undo();
            edges.same("after undo", posts.count(9), 5);
        });
    }

    private void countCrossings() {
        String pairs = "2: what all crossings count together, told pair by pair";
        String widths = "3: the same, told width by width: for each one from 1 to 50 the crossings of the ribbons that "
                + "are at least so wide, counted by the places at which they end";
        String[] texts = {"ae1;bf1", "be5;af6", "af6;be5", "ap50;bo50;cn50;dm50", "af1;be1;ej1;fi1", "ae5;af6;bf7;ae8",
            "eb5;fa6;af7;hb3", "bi5;ah6;fm3;bm4", "ah4;ah9;be3;cf50;dg1;dg7"};
        int[] due = {0, 5, 5, 300, 2, 0, 0, 0, 2 * 3 + 4 + 9 + 2 * 1 + 4 + 7};
        for (int index = 0; index < texts.length; index++) {
            counted(pairs, 2, texts[index], due[index]);
            counted(widths, 3, texts[index], due[index]);
        }
        edges.promise(19, widths, () -> {
            // Each width from 1 to 50 has its part, none less and none more.
            for (int width = 1; width <= 50; width++) {
                RibbonPosts posts = Checks.drawn("aj" + width + ";bi50");
                edges.same("one ribbon with the width " + width, posts.count(3), width);
            }
        });
        edges.promise(19, widths, () -> {
            RibbonPosts posts = Checks.drawn("ae3;bf3");
            posts.swap(4, 5);
            edges.same("the places at which they end", posts.count(3), 3);
            posts.swap(0, 1);
            edges.same("the places at which they begin", posts.count(3), 0);
            // All cross ah; of the others bg and cg cross de, but none one with its own begin or end.
            edges.same("begins and ends that are the same", Checks.drawn("ah3;bg1;cg1;dg1;de1").count(3), 4 + 2);
        });
        counted("4: pairs of ribbons that cross", 4, "ap50;bo50;cn50;dm50", 6);
        edges.promise(19, "4: pairs of ribbons that cross", () -> {
            RibbonPosts posts = new RibbonPosts();
            for (int ribbon = 0; ribbon < 20; ribbon++) {
                posts.ribbon(ribbon % 2, 5 - ribbon % 2, 1);
            }
            edges.same("ten with ten", posts.count(4), 100);
            edges.same("what they count", posts.count(2), 100);
            edges.same("what they count width by width", posts.count(3), 100);
            posts.widen(0, 0);
            edges.same("one of them with the width 0", posts.count(4), 100);
            edges.same("what they count then", posts.count(2), 90);
        });
    }

    private void countThrough() {
        String ways = "6: the most that can go through, told by ways";
        String cuts = "7: the same, told by cuts";
        String[] texts = {"ae1", "am5", "ae5;em3", "ae3;em5", "ae5;ei9;ip4", "ai5;im6;bf2;fm7", "ei5;im5", "ai5;ie5;em5",
            "ae1;af1;ei1;ej1;fi1;im1;jm1", "ae9;ei8;ip1", "ae50;be50;ce50;de50;em50;en50;eo50;ep50",
            "ae9;be4;ei6;ej3;im2;jm9;el1;lp5", "dh50;hl50;lp50;dp50"};
        int[] due = {0, 5, 3, 3, 4, 7, 0, 0, 2, 1, 200, 6, 100};
        for (int index = 0; index < texts.length; index++) {
            counted(ways, 6, texts[index], due[index]);
            counted(cuts, 7, texts[index], due[index]);
        }
        for (String sentence : new String[] {ways, cuts}) {
            int what = sentence.charAt(0) - '0';
            edges.promise(19, sentence, () -> {
                // Nothing is left over from a look at more and wider ribbons.
                RibbonPosts posts = Checks.drawn("ae9;em4;am7;bn6");
                edges.same("of four", posts.count(what), 17);
                posts.remove(3);
                edges.same("of three", posts.count(what), 11);
                posts.widen(2, 1);
                edges.same("of narrow ones", posts.count(what), 5);
                posts.remove(0);
                posts.remove(0);
                posts.remove(0);
                edges.same("of none", posts.count(what), 0);
            });
        }
        edges.promise(19, ways, () -> {
            RibbonPosts posts = Checks.drawn("am9;bn9");
            posts.widen(0, 0);
            edges.same("with a width 0", posts.count(6), 9);
            posts.widen(1, 0);
            edges.same("with two of them", posts.count(6), 0);
            edges.same("with two of them, by cuts", posts.count(7), 0);
        });
    }

    private void wrongCount() {
        edges.promise(19, "Throws `IllegalArgumentException` if what is not 0 to 9", () ->
            edges.refusedByAll(Edges::rich, "count", Edges.ARGUMENT,
                    new int[] {-1, 10, 11, Integer.MIN_VALUE, Integer.MAX_VALUE}, RibbonPosts::count));
    }
}
