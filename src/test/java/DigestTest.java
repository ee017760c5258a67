/** Promise 26: digest, told again by the list of the document and by the calls themselves. */
final class DigestTest {
    private static final Checks CHECKS = new Checks();

    private long hash;

    public static void main(String[] args) {
        fixed();
        states();
        shares();
        CHECKS.end();
    }

    private void add(long value) {
        hash = 31 * hash + value;
    }

    static long due(RibbonPosts posts, boolean first, boolean second, String buffer) {
        DigestTest list = new DigestTest();
        list.hash = 3527;
        for (int what = 0; what <= 9; what++) {
            list.add(posts.count(what));
        }
        for (int post = 0; post < 16; post++) {
            for (int what = 0; what <= 7; what++) {
                list.add(posts.postOf(post, what));
            }
        }
        for (int ribbon = 0; ribbon < posts.count(0); ribbon++) {
            for (int what = 0; what <= 4; what++) {
                list.add(posts.ribbonOf(ribbon, what));
            }
        }
        for (int column = 0; column < 4; column++) {
            list.add(posts.bestOrder(column));
            list.add(posts.height(column));
        }
        list.add(posts.ifSwapped(0, 1));
        list.add(posts.ifSwapped(5, 6));
        list.add(posts.ifSwapped(8, 11));
        list.add(posts.ifSettled());
        list.add(posts.mainRibbon());
        list.add(Double.doubleToLongBits(posts.throughShare()));
        list.add(first ? 1 : 0);
        list.add(second ? 1 : 0);
        list.add(buffer.length());
        for (int index = 0; index < buffer.length(); index++) {
            list.add(buffer.charAt(index));
        }
        return list.hash;
    }

    /** A number that another program (a line of Python over the list) told for a new object. */
    private static void fixed() {
        CHECKS.same("digest of a new object", new RibbonPosts().digest(), NEW_OBJECT);
    }

    static final long NEW_OBJECT = -2365102730754106132L;

    private static void states() {
        RibbonPosts posts = stepped(0);
        CHECKS.same("digest of ribbons", posts.digest(), due(posts, false, false, ""));
        posts = stepped(1);
        CHECKS.same("digest with slot 1", posts.digest(), due(posts, false, true, ""));
        posts = stepped(2);
        CHECKS.same("digest with both slots", posts.digest(), due(posts, true, true, ""));
        posts = stepped(3);
        CHECKS.same("digest with a buffer", posts.digest(), due(posts, true, true, "ae10;~!"));
        posts = stepped(4);
        CHECKS.same("digest of even posts", posts.digest(), due(posts, true, true, ""));
        CHECKS.same("digest changes nothing", stepped(4).digest(), posts.digest());
    }

    /** A new object for each look, since due() takes half of the calls that an object has. */
    private static RibbonPosts stepped(int steps) {
        RibbonPosts posts = Checks.drawn("af9;be3;em2;jp6;na40;bi7;al2;cj9");
        if (steps > 0) {
            posts.keep(1);
        }
        if (steps > 1) {
            posts.keep(0);
            posts.order(1);
        }
        if (steps > 2) {
            posts.trim(4);
            Checks.write(posts, "ae10;~!");
        }
        if (steps > 3) {
            posts.settle();
            posts.clearBuffer();
        }
        return posts;
    }

    /** The bits of many shares, made by hand in the class. */
    private static void shares() {
        RibbonPosts none = Checks.drawn("ae5");
        CHECKS.same("digest of the share 0", none.digest(), due(none, false, false, ""));
        for (int through = 1; through <= 50; through++) {
            for (int rest = 1; rest <= 50; rest += 7) {
                RibbonPosts posts = Checks.drawn("am" + through + ";ae" + rest + ";be50;be49");
                CHECKS.same("digest of a share " + posts.throughShare(), posts.digest(),
                        due(posts, false, false, ""));
            }
        }
    }
}
