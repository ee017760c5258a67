/** Terms: posts and ribbons, crossings, even posts, what goes through, the input text. */
final class TermEdges {
    private final Edges edges;

    TermEdges(Edges edges) {
        this.edges = edges;
    }

    void all() {
        numbers();
        posts();
        ribbons();
        crossings();
        sides();
        trims();
        through();
        texts();
        syntax();
    }

    private void numbers() {
        edges.term("All numbers are integers, but for a share; divisions are rounded down.", () -> {
            edges.same("a share of 2 / 3", Checks.drawn("am2;ae1").throughShare(), 2.0 / 3.0);
            edges.same("a share of 1 / 551", Checks.drawn("am1" + ";ae50".repeat(11)).throughShare(), 1.0 / 551.0);
            edges.same("the column of 7 is 1", Checks.drawn("di1;hm1").postOf(7, 6), 0);
        });
        edges.term("The constants: `NONE = -1`: There is nothing to return.", () ->
            edges.same("NONE", RibbonPosts.NONE, -1));
    }

    private void posts() {
        edges.term("There are 4 columns, numbered from 0 at the left, with 4 posts each; the post p, 0 to 15, "
                + "is in the column p / 4.", () -> {
            for (int from = 0; from < 16; from++) {
                for (int to = 0; to < 16; to++) {
                    joined(from, to);
                }
            }
        });
        edges.term("In a column the posts stand in an order, at first by ascending numbers: each has a place, "
                + "0 to 3, in it.", () -> {
            RibbonPosts posts = new RibbonPosts();
            for (int post = 0; post < 16; post++) {
                edges.same("the first place of " + post, posts.postOf(post, 0), post % 4);
            }
            Checks.load(posts, "ah1;bg1;cf1;de1;ep1;fo1;gn1;hm1;ai1;ek1");
            placesStayPlaces(posts, "swap", posts.swap(0, 3));
            placesStayPlaces(posts, "swap of inner posts", posts.swap(9, 10));
            placesStayPlaces(posts, "sweep", posts.sweep());
            placesStayPlaces(posts, "order", posts.order(3));
            placesStayPlaces(posts, "order of 0", posts.order(0));
        });
    }

    private void joined(int from, int to) {
        RibbonPosts posts = new RibbonPosts();
        Object got = Checks.outcome(() -> posts.ribbon(from, to, 1));
        if (from / 4 == to / 4) {
            edges.same("ribbon from " + from + " to " + to, "" + got, "" + Edges.ARGUMENT);
            return;
        }
        edges.same("ribbon from " + from + " to " + to, "" + got, "0");
        edges.same("on from " + from + " to " + to, posts.ribbonOf(0, 3), to / 4 > from / 4 ? 1 : 0);
    }

    private void placesStayPlaces(RibbonPosts posts, String what, int crossings) {
        for (int column = 0; column < 4; column++) {
            int bits = 0;
            for (int number = 0; number < 4; number++) {
                bits |= 1 << posts.postOf(4 * column + number, 0);
            }
            edges.same("places of the column " + column + " after " + what + ", " + crossings, bits, 15);
        }
    }

    private void ribbons() {
        edges.term("There are at most 20 ribbons, numbered from 0 in the order in which they came.", () -> {
            RibbonPosts posts = Edges.full();
            edges.same("ribbons", posts.count(0), 20);
            for (int ribbon = 0; ribbon < 20; ribbon++) {
                edges.same("width of " + ribbon, posts.ribbonOf(ribbon, 2), 1 + ribbon);
            }
            edges.same("the 21st", "" + Checks.outcome(() -> posts.ribbon(0, 4, 1)), "" + Edges.STATE);
            posts.remove(0);
            edges.same("the last number again", posts.ribbon(3, 12, 50), 19);
            edges.same("the ribbon that came last", posts.ribbonOf(19, 2), 50);
            edges.same("the first one then", posts.ribbonOf(0, 2), 2);
        });
        edges.term("A ribbon goes from a post to a post in another column, and has a width, 0 to 50.", () -> {
            RibbonPosts posts = Checks.drawn("ap50;pa1");
            edges.same("width 50", posts.ribbonOf(0, 2), 50);
            posts.widen(0, 0);
            edges.same("width 0", posts.ribbonOf(0, 2), 0);
            edges.same("a ribbon with the width 0 is still there", posts.count(0), 2);
            posts.widen(0, 50);
            edges.same("from", posts.ribbonOf(0, 0), 0);
            edges.same("to", posts.ribbonOf(0, 1), 15);
        });
        edges.term("It goes on if the column to which it goes is greater, otherwise it goes back.", () -> {
            RibbonPosts posts = Checks.drawn("de1;ed1;hi1;ih1;lm1;ml1;dm1;md1");
            for (int ribbon = 0; ribbon < 8; ribbon++) {
                edges.same("on: " + ribbon, posts.ribbonOf(ribbon, 3), 1 - ribbon % 2);
            }
            // To the place 0 from the place 3: the column alone tells.
            edges.same("d goes on", posts.postOf(3, 4), 2);
            edges.same("back to d", posts.postOf(3, 5), 2);
        });
    }

    /** Told by all calls that know of crossings; all widths are 1. */
    private void pairs(String text, int due) {
        RibbonPosts posts = Checks.drawn(text);
        edges.same("pairs of " + text, posts.count(4), due);
        edges.same("what they count, of " + text, posts.count(2), due);
        edges.same("what they count width by width, of " + text, posts.count(3), due);
        int across = 0;
        for (int ribbon = 0; ribbon < posts.count(0); ribbon++) {
            across += posts.ribbonOf(ribbon, 4);
        }
        edges.same("what each one crosses, of " + text, across, 2 * due);
    }

    private void crossings() {
        String cross = "Two ribbons that go on cross, if they go from the same column and to the same column, and "
                + "the one begins at a lesser place, and ends at a greater place than the other one.";
        edges.term(cross, () -> {
            pairs("af1;be1", 1);
            pairs("be1;af1", 1);
            pairs("cl1;di1", 1);
            pairs("ae1;bf1", 0);
        });
        edges.term(cross, () -> {
            // The same begin, the same end, both: no lesser and no greater place.
            pairs("ae1;af1", 0);
            pairs("af1;ae1", 0);
            pairs("af1;bf1", 0);
            pairs("bf1;af1", 0);
            pairs("ae1;ae1", 0);
        });
        edges.term(cross, () -> {
            pairs("aj1;fi1", 0);
            pairs("af1;bi1", 0);
            pairs("af1;fi1", 0);
            pairs("an1;bm1;aj1;bi1", 2);
        });
        edges.term(cross, () -> {
            pairs("eb1;fa1", 0);
            pairs("af1;eb1", 0);
            pairs("mf1;ne1", 0);
        });
        edges.term(cross, () -> {
            // The places tell, not the numbers.
            RibbonPosts posts = Checks.drawn("ae1;bf1");
            posts.swap(0, 1);
            edges.same("pairs after a swap", posts.count(4), 1);
            posts.swap(4, 5);
            edges.same("pairs after both swaps", posts.count(4), 0);
        });
        edges.term("Their crossing counts the lesser width of both.", () -> {
            edges.same("7 and 4", Checks.drawn("af7;be4").count(2), 4);
            edges.same("4 and 7", Checks.drawn("af4;be7").count(2), 4);
            edges.same("5 and 5", Checks.drawn("af5;be5").count(2), 5);
            edges.same("50 and 50", Checks.drawn("af50;be50").count(2), 50);
            edges.same("1 and 50", Checks.drawn("af1;be50").count(2), 1);
        });
        edges.term("(So ribbons with the width 0 count nothing.)", () -> {
            RibbonPosts posts = Checks.drawn("af9;be4");
            posts.widen(1, 0);
            edges.same("count(2) with a width 0", posts.count(2), 0);
            edges.same("count(3) with a width 0", posts.count(3), 0);
            edges.same("they cross nevertheless", posts.count(4), 1);
            posts.widen(0, 0);
            edges.same("count(2) with two widths 0", posts.count(2), 0);
            edges.same("count(3) with two widths 0", posts.count(3), 0);
        });
    }

    private void sides() {
        edges.term("Of a post, what comes in is the widths of the ribbons that go on to it, together; "
                + "what leaves is the widths of the ribbons that go on from it.", () -> {
            RibbonPosts posts = Checks.drawn("ae5;be6;ae5;ei3;em4;bf9;fi2");
            edges.same("what comes into e", posts.postOf(4, 1), 16);
            edges.same("what leaves e", posts.postOf(4, 2), 7);
            edges.same("what comes into a", posts.postOf(0, 1), 0);
            edges.same("what leaves m", posts.postOf(12, 2), 0);
        });
        edges.term("(Ribbons that go back do not count.)", () -> {
            RibbonPosts posts = Checks.drawn("ea9;ie8;pe7;mi6");
            edges.same("back to e", posts.postOf(4, 1), 0);
            edges.same("back from e", posts.postOf(4, 2), 0);
            edges.same("uneven posts", posts.count(5), 0);
            edges.same("trimmed", posts.settle(), 0);
        });
        edges.term("The inner posts are those of the columns 1 and 2.", () -> {
            RibbonPosts posts = Checks.drawn("de1;df1;dg1;dh1;im1;jm1;km1;lm1;ap1;bp1;cp1;an1;ao1");
            for (int post = 0; post < 16; post++) {
                edges.same("even: " + post, posts.postOf(post, 6), post >= 4 && post <= 11 ? 0 : 1);
            }
            edges.same("uneven posts", posts.count(5), 8);
        });
        edges.term("An inner post is even if as much leaves as comes in.", () -> {
            RibbonPosts posts = Checks.drawn("ae5;ei5");
            edges.same("5 and 5", posts.postOf(4, 6), 1);
            posts.widen(1, 4);
            edges.same("5 and 4", posts.postOf(4, 6), 0);
            posts.widen(1, 6);
            edges.same("5 and 6", posts.postOf(4, 6), 0);
            edges.same("no ribbons", posts.postOf(5, 6), 1);
            posts.widen(0, 0);
            posts.widen(1, 0);
            edges.same("0 and 0", posts.postOf(4, 6), 1);
        });
    }

    private void trimmed(String text, int post, String due) {
        RibbonPosts posts = Checks.drawn(text);
        posts.trim(post);
        edges.same("trim(" + post + ") of " + text, Checks.told(posts), due);
    }

    private void trims() {
        String trim = "To trim a post is this, as long as it is not even: of the ribbons on its greater side the "
                + "widest one, of several the lowest, becomes 1 narrower.";
        edges.term(trim, () -> trimmed("ae3;be4;ei7", 4, "ae3;be4;ei7"));
        edges.term(trim, () -> {
            trimmed("ae9;ei4", 4, "ae4;ei4");
            trimmed("ae4;ei9", 4, "ae4;ei4");
            trimmed("ae9;ea4;ie9", 4, "ae0;ea4;ie9");
        });
        edges.term(trim, () -> {
            // The widest one, until another one is as wide; then by turns.
            trimmed("ae3;be5;ei7", 4, "ae3;be4;ei7");
            trimmed("ae3;be5;ei5", 4, "ae2;be3;ei5");
            trimmed("ae3;be5;ei4", 4, "ae2;be2;ei4");
        });
        edges.term(trim, () -> {
            trimmed("ae3;be3;ce3;ei8", 4, "ae2;be3;ce3;ei8");
            trimmed("ae3;be3;ce3;ei7", 4, "ae2;be2;ce3;ei7");
            trimmed("bf4;fi3;fj3;fm3", 5, "bf4;fi1;fj1;fm2");
        });
        edges.term("To settle is to trim the inner posts, by ascending numbers, again and again, until all are even.",
                () -> {
                    settled("ae10;ei8;in3", "ae3;ei3;in3");
                    settled("ei5;ai4;im3;ae2", "ei1;ai2;im3;ae1");
                    settled("dh6;lp6", "dh0;lp0");
                });
    }

    private void settled(String text, String due) {
        RibbonPosts posts = Checks.drawn(text);
        posts.settle();
        edges.same("settle of " + text, Checks.told(posts), due);
        edges.same("uneven posts of " + text, posts.count(5), 0);
    }

    private void most(String text, int due) {
        RibbonPosts posts = Checks.drawn(text);
        edges.same("by ways: " + text, posts.count(6), due);
        edges.same("by cuts: " + text, posts.count(7), due);
    }

    private void through() {
        String most = "The most that can go through is the greatest sum, over all ribbons that go on from the column 0, "
                + "of a number for each, if each ribbon that goes on has a number, from 0 to its width, so that at each "
                + "inner post the numbers of the ribbons that come in, together, are those of the ribbons that leave "
                + "it, together.";
        edges.term(most, () -> {
            most("ap50", 50);
            most("em9;im8", 0);
            most("ei9;im8;am1", 1);
            most("ae50", 0);
            most("ma5;mi5;ia5", 0);
            RibbonPosts posts = new RibbonPosts();
            for (int ribbon = 0; ribbon < 20; ribbon++) {
                posts.ribbon(ribbon % 4, 12 + ribbon % 3, 50);
            }
            edges.same("20 ribbons by ways", posts.count(6), 1000);
            edges.same("20 ribbons by cuts", posts.count(7), 1000);
        });
        edges.term(most, () -> {
            // All inner posts behind the cut, and all before it.
            most("ae1;em50;fm50;gm50;hm50;im50;jm50;km50;lm50", 1);
            most("em1;ae50;af50;ag50;ah50;ai50;aj50;ak50;al50", 1);
        });
        edges.term(most, () -> {
            most("ae5;ei3;im4", 3);
            most("ae3;be4;em2;ei3;io9", 5);
            most("ai5;ie5;em5", 0);
        });
        edges.term(most, () -> {
            // What a first way took must be given back for a second one, and once only.
            most("ae1;af1;ei1;ej1;fi1;im1;jm1", 2);
            most("ae1;be1;ei1;ej1;af1;fi1;im1;jn1", 2);
            most("ae1;ei1;im1;bf2;fi2;ej2;jn2", 2);
            // What nobody took can't be given back.
            most("ai5;ei5;em5;af5;fj5;jn5", 5);
            most("ae3;em2;ei3;im3", 3);
            most("im1;fi3;bf2;im3", 2);
        });
    }

    private void loads(String text) {
        RibbonPosts posts = new RibbonPosts();
        edges.same("load of " + text, "" + Checks.outcome(() -> Checks.load(posts, text)),
                "" + text.split(";").length);
        edges.same("what is told by " + text, Checks.told(posts), text);
    }

    private void refuses(String text) {
        RibbonPosts posts = new RibbonPosts();
        edges.same("load of " + text, "" + Checks.outcome(() -> Checks.load(posts, text)), "" + Edges.ARGUMENT);
    }

    private void texts() {
        edges.term("The buffer has at most 60 characters.", () -> {
            RibbonPosts posts = new RibbonPosts();
            for (int length = 1; length <= 60; length++) {
                edges.same("length", posts.append('a'), length);
            }
            edges.same("the 61st", "" + Checks.outcome(() -> posts.append('a')), "" + Edges.STATE);
            loads("ae10;".repeat(11) + "bf25");
            loads("ae1;".repeat(14) + "bf25");
        });
        String drawing = "A drawing as a text is one or more ribbons with \";\" between them: a post, \"a\" to \"p\" "
                + "(for 0 to 15), a post in another column, and a width, 1 to 50, without leading zeros.";
        edges.term(drawing, () -> {
            refuses("");
            loads("ae1");
            loads("ae1;ae1");
        });
        edges.term(drawing, () -> {
            for (String text : new String[] {"ae1;", ";ae1", "ae1;;bf1", "ae1bf1", "ae1,bf1", ";"}) {
                refuses(text);
            }
        });
        edges.term(drawing, () -> {
            for (int post = 0; post < 16; post++) {
                loads("" + (char) ('a' + post) + (char) ('a' + (post + 4) % 16) + "7");
            }
            for (String text : new String[] {"qa1", "aq1", "`e1", "e`1", "Ae1", "aE1", "1e1", "a1", "e1"}) {
                refuses(text);
            }
        });
        edges.term(drawing, () -> {
            for (String text : new String[] {"aa1", "ad1", "da1", "eh1", "he1", "il1", "mp1", "pm1"}) {
                refuses(text);
            }
            loads("de1;hi1;lm1;ed1;ih1;ml1");
        });
        edges.term(drawing, () -> {
            for (int width = 1; width <= 50; width++) {
                loads("ae" + width);
            }
            for (String width : new String[] {"", "0", "00", "01", "050", "51", "59", "60", "99", "100", "500", "-1"}) {
                refuses("ae" + width);
            }
        });
    }

    private void errorOf(String text, int due) {
        RibbonPosts posts = new RibbonPosts();
        Checks.write(posts, text);
        edges.same("firstError of " + text, posts.firstError(), due);
    }

    private void syntax() {
        String error = "The buffer is read from left to right; a character is a syntax error if no drawing as a text, "
                + "of any length, begins with the characters before it and this character.";
        edges.term(error, () -> {
            // Each beginning of a drawing is without an error, though it is no drawing.
            for (String text : new String[] {"", "a", "ae", "ae5", "ae50", "ae50;", "ae50;p", "ae50;pa"}) {
                errorOf(text, text.length());
            }
        });
        edges.term(error, () -> {
            // The first of several, and the rest does not matter.
            errorOf("~~~", 0);
            errorOf("aa1;bb1", 1);
            errorOf("ae0;bf0", 2);
            errorOf("ae51;bf1", 3);
            errorOf("ae100;bf1", 4);
            errorOf("ae1;;bf1", 4);
            errorOf("ae1;bf1;q", 8);
        });
        edges.term(error, () -> {
            // Of any length: the 60 characters of the buffer are no end, nor are 20 ribbons.
            errorOf("ae10;".repeat(12), 60);
            errorOf("ae1;".repeat(14) + "ae1a", 59);
            errorOf("ae1;".repeat(14) + "bf2;", 60);
        });
    }
}
