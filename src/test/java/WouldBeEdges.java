/** Promises 20, 21, 23, 25 and 26: ifSwapped, bestOrder, mainRibbon, throughShare, digest. */
final class WouldBeEdges {
    private static final int[] NO_POSTS = {-1, 16, Integer.MIN_VALUE, Integer.MAX_VALUE};
    private static final int[] NO_COLUMNS = {-1, 4, Integer.MIN_VALUE, Integer.MAX_VALUE};

    private final Edges edges;

    WouldBeEdges(Edges edges) {
        this.edges = edges;
    }

    void all() {
        ifSwapped();
        wrongIfSwapped();
        bestOrder();
        severalOrders();
        mainRibbon();
        throughShare();
        digest();
        digestOfParts();
    }

    private void ifSwapped() {
        edges.promise(20, "Tells what crossings would count, if two posts were exchanged.", () -> {
            RibbonPosts posts = Checks.drawn("ae10;bf20;dh3");
            edges.same("ifSwapped(0, 1)", posts.ifSwapped(0, 1), 10);
            edges.same("ifSwapped(3, 0)", posts.ifSwapped(3, 0), 16);
            edges.same("ifSwapped(5, 7)", posts.ifSwapped(5, 7), 3);
            edges.same("ifSwapped(12, 15)", posts.ifSwapped(12, 15), 0);
            edges.same("count(2)", posts.count(2), 0);
            edges.same("places", Checks.places(posts, 0), 123);
            edges.same("saved", posts.count(9), 1);
        });
        edges.promise(20, "- `post`: 0 to 15", () -> {
            for (int post = 0; post <= 15; post++) {
                int one = post;
                edges.changesNothing(Edges::rich, "ifSwapped", posts -> posts.ifSwapped(one, one ^ 1));
            }
        });
        edges.promise(20, "- `other`: another post of the same column", () -> {
            for (int step = 1; step <= 3; step++) {
                int other = step;
                edges.changesNothing(Edges::rich, "ifSwapped", posts -> posts.ifSwapped(4, 4 + other));
                edges.changesNothing(Edges::rich, "ifSwapped", posts -> posts.ifSwapped(15, 15 - other));
            }
        });
        edges.promise(20, "Returns the crossings, as swap() would return.", () -> {
            for (int post = 0; post <= 15; post++) {
                for (int other = post / 4 * 4; other < post / 4 * 4 + 4; other++) {
                    if (other != post) {
                        int told = Edges.rich().ifSwapped(post, other);
                        edges.same("ifSwapped(" + post + ", " + other + ")", told, Edges.rich().swap(post, other));
                    }
                }
            }
        });
    }

    private void wrongIfSwapped() {
        edges.promise(20, "Throws `IndexOutOfBoundsException` if there is no such post", () -> {
            edges.refusedByAll(Edges::rich, "with 0", Edges.INDEX, NO_POSTS, (posts, no) -> posts.ifSwapped(0, no));
            edges.refusedByAll(Edges::rich, "with 15", Edges.INDEX, NO_POSTS, (posts, no) -> posts.ifSwapped(no, 15));
        });
        edges.promise(20, "Throws `IllegalArgumentException` if both are the same, or not in one column", () -> {
            int[][] pairs = {{0, 0}, {15, 15}, {3, 4}, {4, 3}, {7, 8}, {11, 12}, {0, 15}, {15, 0}, {0, 4}};
            for (int[] pair : pairs) {
                edges.refused(Edges::rich, "ifSwapped of " + pair[0] + " and " + pair[1], Edges.ARGUMENT,
                        posts -> posts.ifSwapped(pair[0], pair[1]));
            }
        });
    }

    private void best(String text, int column, int due) {
        edges.same("bestOrder(" + column + ") of " + text, Checks.drawn(text).bestOrder(column), due);
    }

    private void bestOrder() {
        edges.promise(21, "Finds the best order of a column.", () -> {
            best("af10;be20", 1, 1023);
            best("dm1;cn1;bo1;ap1", 3, 3210);
            // Both sides of a column count: 3, then 6, for e before f, and 5 for f before e.
            best("af3;be9;ei5;fj8", 1, 123);
            best("af6;be9;ei5;fj8", 1, 1023);
        });
        edges.promise(21, "- `column`: 0 to 3", () -> {
            String[] turned = {"de1;cf1;bg1;ah1", "ah1;bg1;cf1;de1", "el1;fk1;gj1;hi1", "ip1;jo1;kn1;lm1"};
            for (int column = 0; column <= 3; column++) {
                best(turned[column], column, 3210);
            }
        });
        edges.promise(21, "Throws `IndexOutOfBoundsException` if there is no such column", () ->
            edges.refusedByAll(Edges::rich, "bestOrder", Edges.INDEX, NO_COLUMNS, RibbonPosts::bestOrder));
    }

    private void severalOrders() {
        String returns = "Returns of all orders of its posts the one with which the crossings count the least, of several "
                + "the first one, as orders are compared by the posts at the place 0, then 1, and so on; told by four "
                + "digits: 1000 times the number in its column, 0 to 3, of the post at the place 0, 100 times that of "
                + "the one at the place 1, 10 times that of the one at the place 2, and that of the last one, together.";
        edges.promise(21, returns, () -> {
            // Without crossings it is the first of all orders, however the posts stand.
            for (int column = 0; column <= 3; column++) {
                RibbonPosts posts = new RibbonPosts();
                posts.swap(4 * column, 4 * column + 3);
                edges.same("bestOrder(" + column + ")", posts.bestOrder(column), 123);
            }
            best("af5;be5;ei5;fj5", 1, 123);
        });
        edges.promise(21, returns, () -> {
            // g before e: 1203 is the first such order by its posts; by the places of e to h it would be 2013.
            best("ag5;be5", 1, 1203);
            best("ah5;be5", 1, 1230);
            best("ah5;bg5", 1, 132);
            best("ah5;bf5", 1, 231);
        });
        edges.promise(21, returns, () -> {
            // All 24 orders of the ends: the best one turns each of them round again.
            for (int code = 0; code < 256; code++) {
                int[] ends = {code >> 6 & 3, code >> 4 & 3, code >> 2 & 3, code & 3};
                if ((1 << ends[0] | 1 << ends[1] | 1 << ends[2] | 1 << ends[3]) == 15) {
                    StringBuilder text = new StringBuilder();
                    for (int begin = 0; begin < 4; begin++) {
                        text.append(begin == 0 ? "" : ";").append((char) ('a' + begin));
                        text.append((char) ('m' + ends[begin])).append(7);
                    }
                    best(text.toString(), 3, 1000 * ends[0] + 100 * ends[1] + 10 * ends[2] + ends[3]);
                }
            }
        });
        edges.promise(21, returns, () -> {
            // Ribbons with the width 0, those back, and those beside the column have no part in it.
            RibbonPosts posts = Checks.drawn("af6;be6;ip4;jo4;fa3;eb3");
            posts.widen(0, 0);
            edges.same("bestOrder(1)", posts.bestOrder(1), 123);
        });
    }

    private void main(String text, int due) {
        edges.same("mainRibbon of " + text, Checks.drawn(text).mainRibbon(), due);
    }

    private void mainRibbon() {
        edges.promise(23, "Finds the ribbon that matters the most.", () -> {
            main("am5;bn9", 1);
            main("am9;bn5", 0);
            main("ae9;be4;ei6;ej3;im2;jm9;el1;lp5", 3);
        });
        String returns = "Returns the ribbon that goes on without which the least could go through, of several the lowest; "
                + "NONE if none goes on.";
        edges.promise(23, returns, () -> {
            edges.same("mainRibbon without ribbons", new RibbonPosts().mainRibbon(), RibbonPosts.NONE);
            main("ma5;ea7", RibbonPosts.NONE);
            main("ih50", RibbonPosts.NONE);
        });
        edges.promise(23, returns, () -> {
            main("am5;bn5;co5", 0);
            main("am4;bn5;co5", 1);
            main("ae9;em9;bn9", 0);
            main("ea9;ae3;bf3", 1);
            main("ae1;em50;fm50;gm50;hm50;im50;jm50;km50;lm50", 0);
            main("em1;ae50;af50;ag50;ah50;ai50;aj50;ak50;al50", 0);
            // Nothing is left over from a look at more ribbons.
            RibbonPosts posts = Checks.drawn("am5;bn9;co20");
            edges.same("mainRibbon of three", posts.mainRibbon(), 2);
            posts.remove(2);
            edges.same("mainRibbon of two", posts.mainRibbon(), 1);
        });
        edges.promise(23, returns, () -> {
            // The widest one does not matter if others bring the same.
            main("ae50;af50;em5;fm5;bn6", 4);
            main("ae9;bf9;ei9;fi9;im9;dp8", 4);
        });
        edges.promise(23, returns, () -> {
            RibbonPosts posts = Checks.drawn("ea5;ae5;em5");
            posts.widen(1, 0);
            edges.same("mainRibbon, if nothing goes through", posts.mainRibbon(), 1);
            posts = Edges.full();
            posts.remove(19);
            posts.ribbon(0, 15, 50);
            edges.same("mainRibbon of 20", posts.mainRibbon(), 19);
        });
    }

    private void share(String text, double due) {
        edges.same("throughShare of " + text, Checks.drawn(text).throughShare(), due);
    }

    private void throughShare() {
        edges.promise(25, "Returns how much goes through.", () -> {
            share("ae5;em3", 3 / 5.0);
            share("ap50", 1.0);
            share("ae50", 0.0);
        });
        String returns = "Returns count(6) as a double, divided by what leaves the posts of the column 0; "
                + "1.0 if nothing does.";
        edges.promise(25, returns, () -> {
            share("am1;ae2", 1 / 3.0);
            share("am1;bn1;ce1;di4", 2 / 7.0);
            // What leaves the inner posts, or goes back, has no part in it.
            share("am1;ei2;pa7;ea9", 1.0);
            share("am1;be1;in9", 0.5);
        });
        edges.promise(25, returns, () -> {
            edges.same("throughShare without ribbons", new RibbonPosts().throughShare(), 1.0);
            share("ei5;im5;pa7", 1.0);
            RibbonPosts posts = Checks.drawn("ap5");
            posts.widen(0, 0);
            edges.same("throughShare of the width 0", posts.throughShare(), 1.0);
        });
    }

    private void hashed(String what, RibbonPosts posts, boolean first, boolean second, String buffer) {
        edges.same("digest of " + what, posts.digest(), DigestTest.due(posts, first, second, buffer));
    }

    private void hashedText(String text) {
        hashed(text, Checks.drawn(text), false, false, "");
    }

    private void digest() {
        edges.promise(26, "Computes a hash of the whole state.", () -> {
            RibbonPosts posts = Edges.rich();
            long before = posts.digest();
            posts.widen(0, 10);
            edges.same("another digest", posts.digest() == before ? 1 : 0, 0);
            edges.changesNothing(Edges::rich, "digest", RibbonPosts::digest);
        });
        edges.promise(26, "The hash starts at 3527.", () ->
            edges.same("digest of a new object", new RibbonPosts().digest(), DigestTest.NEW_OBJECT));
        edges.promise(26, "For each value v of the following list, in order, the hash becomes 31 * hash + v, in long "
                + "arithmetic with overflow.", () -> hashed("a rich object", Edges.rich(), true, true, "ae5;bf"));
        edges.promise(26, "Returns the hash.", () -> hashed("20 ribbons", Edges.full(), false, false, ""));
    }

    private void digestOfParts() {
        edges.promise(26, "The values are: count(0) to count(9)", () -> hashedText("af9;be3;em2"));
        edges.promise(26, "for each post its properties 0 to 7", () -> hashedText("ae9;ei3;pa2"));
        edges.promise(26, "for each ribbon its properties 0 to 4", () -> {
            hashedText("af9;be3;pa2");
            hashed("no ribbons", new RibbonPosts(), false, false, "");
        });
        edges.promise(26, "for each column bestOrder and height", () -> hashedText("af9;be3;ei6"));
        edges.promise(26, "ifSwapped of 0 and 1, 5 and 6, and 8 and 11", () -> hashedText("ae2;bf3;fi4;gj5;im6;lp7"));
        edges.promise(26, "ifSettled", () -> hashedText("ae9;em3"));
        edges.promise(26, "mainRibbon", () -> {
            hashedText("am3;bn9");
            hashedText("ma3");
        });
        edges.promise(26, "the bits of throughShare (as Double.doubleToLongBits)", () -> {
            String[] texts = {"am1;ae2", "am5;ae5", "ae5", "am50;bn50", "ei5", "am1" + ";ae50".repeat(11),
                "am49;ae50", "am17;ae15", "am2;ae1", "am1;ae4", "am3;ae47"};
            for (String text : texts) {
                hashedText(text);
            }
        });
        edges.promise(26, "for each slot 1 if it has a snapshot, otherwise 0", () -> {
            for (int slots = 0; slots <= 3; slots++) {
                RibbonPosts posts = Checks.drawn("ae5");
                if ((slots & 1) != 0) {
                    posts.keep(0);
                }
                if ((slots & 2) != 0) {
                    posts.keep(1);
                }
                hashed("the slots " + slots, posts, (slots & 1) != 0, (slots & 2) != 0, "");
            }
        });
        edges.promise(26, "the length of the buffer and each of its character codes.", () -> {
            for (String text : new String[] {"", "!", "~", "ae1", "!~".repeat(30)}) {
                RibbonPosts posts = new RibbonPosts();
                Checks.write(posts, text);
                hashed("the buffer " + text, posts, false, false, text);
                posts.clearBuffer();
                hashed("the buffer " + text + ", cleared", posts, false, false, "");
            }
        });
    }
}
