/** Promises 14 to 16: keep, goBack, undo. */
final class SnapshotsTest {
    private static final Checks CHECKS = new Checks();

    public static void main(String[] args) {
        keepAndGoBack();
        slotsAreApart();
        wrongSlots();
        undo();
        sixStates();
        undoLeavesSlots();
        CHECKS.end();
    }

    private static void keepAndGoBack() {
        RibbonPosts posts = Checks.drawn("ae7;bf2");
        posts.swap(0, 1);
        posts.trim(4);
        CHECKS.same("keep(0)", posts.keep(0), 2);
        CHECKS.same("keep saves nothing", posts.count(9), 3);
        posts.swap(0, 1);
        posts.settle();
        posts.ribbon(2, 6, 5);
        Checks.write(posts, "xy");
        CHECKS.same("goBack(0)", posts.goBack(0), 2);
        CHECKS.tells("goBack(0)", posts, "ae0;bf2");
        CHECKS.same("places after goBack", Checks.places(posts, 0), 1023);
        CHECKS.same("count(8) after goBack", posts.count(8), 7);
        CHECKS.same("saved by goBack", posts.count(9), 6);
        CHECKS.same("goBack leaves the buffer", posts.clearBuffer(), 2);
        posts.widen(1, 9);
        CHECKS.same("the snapshot stays", posts.goBack(0), 2);
        CHECKS.tells("the snapshot stays", posts, "ae0;bf2");
        posts.undo();
        CHECKS.tells("undo of goBack", posts, "ae0;bf9");
        posts.undo();
        posts.undo();
        CHECKS.tells("undo of the first goBack", posts, "ae0;bf0;cg5");
        CHECKS.same("count(8) after undo", posts.count(8), 9);
        CHECKS.same("places after undo", Checks.places(posts, 0), 123);
    }

    private static void slotsAreApart() {
        RibbonPosts posts = Checks.drawn("ae7");
        posts.keep(0);
        posts.ribbon(1, 5, 2);
        CHECKS.same("keep(1)", posts.keep(1), 2);
        posts.remove(0);
        CHECKS.same("goBack(0)", posts.goBack(0), 1);
        CHECKS.tells("goBack(0)", posts, "ae7");
        CHECKS.same("goBack(1)", posts.goBack(1), 2);
        CHECKS.tells("goBack(1)", posts, "ae7;bf2");
        posts.remove(0);
        CHECKS.same("keep(0) in place of the other", posts.keep(0), 1);
        posts.remove(0);
        CHECKS.same("goBack(0) to the new one", posts.goBack(0), 1);
        CHECKS.tells("goBack(0) to the new one", posts, "bf2");
        RibbonPosts empty = new RibbonPosts();
        CHECKS.same("keep without ribbons", empty.keep(1), 0);
        CHECKS.refused(empty, "goBack(0) beside keep(1)", IllegalStateException.class, () -> empty.goBack(0));
        CHECKS.same("goBack without ribbons", empty.goBack(1), 0);
        CHECKS.same("saved by a goBack that changes nothing", empty.count(9), 1);
    }

    private static void wrongSlots() {
        RibbonPosts posts = Checks.drawn("ae7");
        for (int slot : new int[] {-1, 2, Integer.MAX_VALUE, Integer.MIN_VALUE}) {
            CHECKS.refused(posts, "keep(" + slot + ")", IllegalArgumentException.class, () -> posts.keep(slot));
            CHECKS.refused(posts, "goBack(" + slot + ")", IllegalArgumentException.class, () -> posts.goBack(slot));
        }
    }

    private static void undo() {
        RibbonPosts posts = new RibbonPosts();
        posts.ribbon(0, 4, 1);
        posts.ribbon(0, 4, 2);
        CHECKS.same("undo", posts.undo(), 1);
        CHECKS.tells("undo", posts, "ae1");
        CHECKS.same("undo of the first", posts.undo(), 0);
        CHECKS.tells("undo of the first", posts, "");
        CHECKS.refused(posts, "undo of none", IllegalStateException.class, () -> posts.undo());
        posts.ribbon(1, 5, 3);
        CHECKS.same("saved anew", posts.count(9), 1);
    }

    /** The seventh state drops the oldest one, and so on, also after undo. */
    private static void sixStates() {
        RibbonPosts posts = new RibbonPosts();
        for (int width = 1; width <= 9; width++) {
            posts.ribbon(0, 4, width);
            CHECKS.same("saved after " + width, posts.count(9), Math.min(width, 6));
        }
        posts.undo();
        posts.undo();
        CHECKS.same("ribbons after two undos", posts.count(0), 7);
        posts.remove(0);
        posts.widen(0, 30);
        posts.settle();
        CHECKS.same("saved after three more", posts.count(9), 6);
        int[] numbers = {6, 6, 7, 6, 5, 4};
        for (int index = 0; index < 6; index++) {
            CHECKS.same("undo " + index, posts.undo(), 5 - index);
            CHECKS.same("ribbons after undo " + index, posts.count(0), numbers[index]);
        }
        CHECKS.refused(posts, "the seventh undo", IllegalStateException.class, () -> posts.undo());
    }

    private static void undoLeavesSlots() {
        RibbonPosts posts = Checks.drawn("ae7");
        posts.ribbon(1, 5, 2);
        posts.keep(0);
        posts.undo();
        posts.undo();
        CHECKS.same("ribbons after all undos", posts.count(0), 0);
        CHECKS.same("goBack after undo", posts.goBack(0), 2);
        CHECKS.tells("goBack after undo", posts, "ae7;bf2");
    }
}
