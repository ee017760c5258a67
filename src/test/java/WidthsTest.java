/** Promises 8, 9, 22 and 24: trim, settle, ifSettled, height. */
final class WidthsTest {
    private static final Checks CHECKS = new Checks();

    public static void main(String[] args) {
        trimWhatComesIn();
        trimWhatLeaves();
        trimEdges();
        settle();
        settleByNumbers();
        height();
        CHECKS.end();
    }

    private static void trimWhatComesIn() {
        RibbonPosts posts = Checks.drawn("ae10;be7;ei5");
        CHECKS.same("trim(4)", posts.trim(4), 12);
        CHECKS.tells("trim(4)", posts, "ae2;be3;ei5");
        CHECKS.same("count(8)", posts.count(8), 12);
        CHECKS.same("saved by trim", posts.count(9), 2);
        CHECKS.same("trim of an even post", posts.trim(4), 0);
        CHECKS.same("saved by a trim that changes nothing", posts.count(9), 3);
        CHECKS.same("trim(8)", posts.trim(8), 5);
        CHECKS.same("count(8), both", posts.count(8), 17);
        CHECKS.tells("trim(8)", posts, "ae2;be3;ei0");
        posts.undo();
        CHECKS.same("count(8) after undo", posts.count(8), 12);
        CHECKS.tells("undo of trim", posts, "ae2;be3;ei5");
    }

    private static void trimWhatLeaves() {
        RibbonPosts posts = Checks.drawn("ae4;ei3;em9;ej9");
        CHECKS.same("trim what leaves", posts.trim(4), 17);
        CHECKS.tells("trim what leaves", posts, "ae4;ei1;em1;ej2");
    }

    private static void trimEdges() {
        RibbonPosts posts = Checks.drawn("ae5;ea30;ie40;fi6;ci2");
        CHECKS.same("ribbons back don't count", posts.trim(4), 5);
        CHECKS.tells("ribbons back stay", posts, "ae0;ea30;ie40;fi6;ci2");
        CHECKS.same("trim(11)", posts.trim(11), 0);
        CHECKS.same("trim(5)", posts.trim(5), 6);
        CHECKS.same("trim(8)", posts.trim(8), 2);
        for (int post : new int[] {-1, 0, 3, 12, 15, 16, Integer.MAX_VALUE, Integer.MIN_VALUE}) {
            CHECKS.refused(posts, "trim(" + post + ")", IndexOutOfBoundsException.class,
                    () -> posts.trim(post));
        }
    }

    private static void settle() {
        RibbonPosts posts = Checks.drawn("ae10;ei8;in3;ia50");
        CHECKS.same("ifSettled", posts.ifSettled(), 12);
        CHECKS.tells("ifSettled", posts, "ae10;ei8;in3;ia50");
        CHECKS.same("count(8) after ifSettled", posts.count(8), 0);
        CHECKS.same("saved after ifSettled", posts.count(9), 1);
        CHECKS.same("uneven before", posts.count(5), 2);
        CHECKS.same("settle", posts.settle(), 12);
        CHECKS.tells("settle", posts, "ae3;ei3;in3;ia50");
        CHECKS.same("count(8) after settle", posts.count(8), 12);
        CHECKS.same("uneven after", posts.count(5), 0);
        CHECKS.same("ifSettled after settle", posts.ifSettled(), 0);
        CHECKS.same("settle again", posts.settle(), 0);
        CHECKS.same("saved by settle", posts.count(9), 3);
        posts.undo();
        posts.undo();
        CHECKS.tells("undo of settle", posts, "ae10;ei8;in3;ia50");
        CHECKS.same("count(8) after undo", posts.count(8), 0);
        RibbonPosts empty = new RibbonPosts();
        CHECKS.same("settle without ribbons", empty.settle(), 0);
        CHECKS.same("ifSettled without ribbons", empty.ifSettled(), 0);
        CHECKS.same("saved by settle without ribbons", empty.count(9), 1);
    }

    /** From the last post to the first one, 2 would be trimmed from ai before e is. */
    private static void settleByNumbers() {
        RibbonPosts posts = Checks.drawn("ei5;ai4;im3;ae2");
        // e: ei 5 -> 2. i: 6 come in, 3 leave: ai 4 -> 3 -> 2 -> then ei (lower) 2 -> 1.
        // e: ae 2 -> 1.
        CHECKS.same("ifSettled by numbers", posts.ifSettled(), 7);
        CHECKS.same("settle by numbers", posts.settle(), 7);
        CHECKS.tells("settle by numbers", posts, "ei1;ai2;im3;ae1");
    }

    private static void height() {
        RibbonPosts posts = Checks.drawn("ae10;bf7;ei5;fi1;pa9");
        CHECKS.same("height(0)", posts.height(0), 17);
        CHECKS.same("height(1)", posts.height(1), 17);
        CHECKS.same("height(2)", posts.height(2), 6);
        CHECKS.same("height(3)", posts.height(3), 0);
        posts.ribbon(5, 15, 20);
        CHECKS.same("height of both sides", posts.height(1), 31);
        CHECKS.same("height of the last column", posts.height(3), 20);
        for (int column : new int[] {-1, 4, Integer.MAX_VALUE, Integer.MIN_VALUE}) {
            CHECKS.refused(posts, "height(" + column + ")", IndexOutOfBoundsException.class,
                    () -> posts.height(column));
        }
    }
}
