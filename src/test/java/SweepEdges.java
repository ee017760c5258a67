/** Terms: sweeps. */
final class SweepEdges {
    private final Edges edges;

    SweepEdges(Edges edges) {
        this.edges = edges;
    }

    void all() {
        columns();
        means();
        ownPlaces();
    }

    /** The places after a sweep, in the order of the numbers of the posts. */
    private void swept(String text, int column, int due) {
        RibbonPosts posts = Checks.drawn(text);
        posts.sweep();
        edges.same("places in the column " + column + " after " + text, Checks.places(posts, column), due);
    }

    private void columns() {
        String sweep = "A sweep goes through the columns 1, 2 and 3, and puts the posts of each into a new order: "
                + "by their means, of several in the order in which they stood.";
        edges.term(sweep, () -> {
            swept("ah1;bg1;cf1;de1", 1, 3210);
            swept("al1;bk1;cj1;di1", 2, 3210);
            swept("ap1;bo1;cn1;dm1", 3, 3210);
        });
        edges.term(sweep, () -> {
            RibbonPosts posts = Checks.drawn("ea1;hd1;ae1");
            posts.swap(0, 3);
            posts.sweep();
            edges.same("the column 0 stays", Checks.places(posts, 0), 3120);
        });
        edges.term(sweep, () -> {
            // All have the mean 0, so that they stay as they stood, not as they are numbered.
            RibbonPosts posts = Checks.drawn("ae1;af1;ag1;ah1");
            posts.swap(4, 7);
            posts.swap(5, 6);
            posts.sweep();
            edges.same("several with one mean", Checks.places(posts, 1), 3210);
            swept("ae1;af1;ag1;ah1", 1, 123);
        });
        edges.term(sweep, () -> {
            // 2/2 and 3/3 are one mean: fractions are compared by what they are worth.
            RibbonPosts posts = Checks.drawn("ae1;ce1;bf1;bf1;bf1");
            posts.swap(4, 5);
            posts.sweep();
            edges.same("2/2 and 3/3", Checks.places(posts, 1), 1023);
        });
    }

    private void means() {
        edges.term("The mean of a post is the sum of the places of the posts from which ribbons that go on come to it",
                () -> {
                    // Ribbons back to e and on from e have no part in its mean, which is 1.
                    swept("be1;af1;pe1;pe1;pe1", 1, 1023);
                    swept("be1;af1;el1;ep1;ep1", 1, 1023);
                    // Places, not numbers: from the column 1 they are 0 to 3, too.
                    swept("di1;ej1", 2, 2013);
                });
        edges.term("(for each ribbon, whatever its width is)", () -> {
            swept("ae50;de1;bf7", 1, 1023);
            // e and f have the mean 1, as long as both ribbons from a count.
            swept("ae1;ae1;de1;bf1", 1, 123);
            RibbonPosts posts = Checks.drawn("be1;af1");
            posts.widen(1, 0);
            posts.sweep();
            edges.same("a ribbon with the width 0", Checks.places(posts, 1), 1023);
        });
        edges.term("as they are then", () -> {
            swept("af1;be1;ei1;fj1", 2, 1023);
            swept("be1;af1;ei1;fj1;im1;jn1", 3, 1023);
            RibbonPosts posts = Checks.drawn("ae1;bf1");
            posts.swap(0, 1);
            posts.sweep();
            edges.same("after a swap", Checks.places(posts, 1), 1023);
        });
        edges.term("divided by the number of these ribbons, as a fraction", () -> {
            // 1/2 and 1/3, 3/2 and 4/3, 8/3 and 5/2: rounded, both would be the same.
            swept("ae1;be1;af1;af1;bf1", 1, 1023);
            swept("be1;ce1;bf1;bf1;cf1", 1, 1023);
            swept("ce1;de1;de1;cf1;df1", 1, 2103);
            // The sums alone, 3 and 2, would turn e and f round.
            swept("be1;be1;be1;cf1", 1, 123);
        });
    }

    private void ownPlaces() {
        edges.term("; a post without such ribbons has its own place, as it stood, as its mean.", () -> {
            // e has 2 and stood before g, f and h keep 1 and 3.
            swept("dh1;ce1", 1, 1023);
            // e has 3 and stood before h.
            swept("de1", 1, 2013);
            swept("ah1", 1, 231);
            RibbonPosts posts = Checks.drawn("ag1");
            posts.swap(4, 7);
            posts.sweep();
            edges.same("as it stood", Checks.places(posts, 1), 3210);
        });
        edges.term("; a post without such ribbons has its own place, as it stood, as its mean.", () -> {
            // Each post of each column at the place 2, behind one with the mean 3, which it passes.
            for (int post = 4; post < 16; post++) {
                RibbonPosts posts = new RibbonPosts();
                if (post % 4 != 2) {
                    posts.swap(post, post / 4 * 4 + 2);
                }
                int before = post % 4 == 1 ? post + 1 : post / 4 * 4 + 1;
                posts.ribbon(3, before, 1);
                posts.sweep();
                edges.same("place of " + post, posts.postOf(post, 0), 1);
                edges.same("place of the one before " + post, posts.postOf(before, 0), 2);
            }
        });
    }
}
