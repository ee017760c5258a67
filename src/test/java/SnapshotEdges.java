/** Promises 14 to 16: keep, goBack, undo. */
final class SnapshotEdges {
    private static final int[] NO_SLOTS = {-1, 2, Integer.MIN_VALUE, Integer.MAX_VALUE};

    private final Edges edges;

    SnapshotEdges(Edges edges) {
        this.edges = edges;
    }

    void all() {
        keep();
        goBack();
        wrongGoBack();
        undo();
    }

    private static RibbonPosts kept() {
        RibbonPosts posts = Checks.drawn("ae7;bf2");
        posts.keep(0);
        posts.keep(1);
        posts.trim(4);
        posts.swap(4, 5);
        return posts;
    }

    private void keep() {
        edges.promise(14, "Takes a snapshot, in place of the one in the slot.", () -> {
            for (int slot = 0; slot <= 1; slot++) {
                RibbonPosts posts = kept();
                String state = Checks.state(posts);
                posts.keep(slot);
                posts.remove(0);
                posts.goBack(slot);
                edges.same("the new snapshot", Checks.state(posts), state);
                posts.goBack(1 - slot);
                edges.same("the other slot", Checks.told(posts), "ae7;bf2");
            }
        });
        edges.promise(14, "Takes a snapshot, in place of the one in the slot.", () -> {
            // It is no undoable call, and what comes later is not in the snapshot.
            RibbonPosts posts = Checks.drawn("ae7");
            posts.keep(0);
            edges.same("saved", posts.count(9), 1);
            posts.widen(0, 1);
            posts.goBack(0);
            edges.same("ribbons", Checks.told(posts), "ae7");
        });
        edges.promise(14, "- `slot`: 0 or 1", () -> {
            for (int slot = 0; slot <= 1; slot++) {
                RibbonPosts posts = Checks.drawn("ae7");
                int other = 1 - slot;
                posts.keep(slot);
                edges.same("goBack(" + slot + ")", posts.goBack(slot), 1);
                edges.same("the other one", "" + Checks.outcome(() -> posts.goBack(other)), "" + Edges.STATE);
            }
        });
        edges.promise(14, "Returns how many ribbons there are.", () -> {
            edges.same("none", new RibbonPosts().keep(0), 0);
            edges.same("one", Checks.drawn("ae7").keep(1), 1);
            edges.same("20", Edges.full().keep(1), 20);
        });
        edges.promise(14, "Throws `IllegalArgumentException` if slot is out of range", () ->
            edges.refusedByAll(SnapshotEdges::kept, "keep", Edges.ARGUMENT, NO_SLOTS, RibbonPosts::keep));
    }

    private void goBack() {
        edges.promise(15, "Goes back to a snapshot, which stays.", () -> {
            RibbonPosts posts = kept();
            posts.goBack(0);
            edges.same("state", Checks.state(posts), "ae7;bf2 column 123 column 123 column 123 column 123 trimmed 0");
            posts.widen(0, 50);
            posts.swap(0, 1);
            posts.settle();
            posts.goBack(0);
            edges.same("again", Checks.state(posts), "ae7;bf2 column 123 column 123 column 123 column 123 trimmed 0");
        });
        edges.promise(15, "Undoable.", () -> {
            edges.undoable(SnapshotEdges::kept, "goBack", posts -> posts.goBack(0));
            edges.undoable(SnapshotEdges::kept, "goBack twice", posts -> {
                posts.goBack(0);
                posts.undo();
                return posts.goBack(0);
            });
        });
        edges.promise(15, "- `slot`: 0 or 1", () -> {
            RibbonPosts posts = Checks.drawn("ae7");
            posts.keep(0);
            Checks.load(posts, "bf1;bf2");
            posts.keep(1);
            edges.same("goBack(0)", posts.goBack(0), 1);
            edges.same("goBack(1)", posts.goBack(1), 2);
        });
        edges.promise(15, "Returns how many ribbons there are then.", () -> {
            RibbonPosts posts = new RibbonPosts();
            posts.keep(0);
            posts.ribbon(0, 4, 1);
            edges.same("none", posts.goBack(0), 0);
            RibbonPosts full = Edges.full();
            full.keep(1);
            full.remove(0);
            edges.same("20", full.goBack(1), 20);
        });
    }

    private void wrongGoBack() {
        edges.promise(15, "Throws `IllegalArgumentException` if slot is out of range", () ->
            edges.refusedByAll(SnapshotEdges::kept, "goBack", Edges.ARGUMENT, NO_SLOTS, RibbonPosts::goBack));
        edges.promise(15, "Throws `IllegalStateException` if there is no snapshot in it", () -> {
            edges.refusedByAll(Edges::full, "goBack", Edges.STATE, new int[] {0, 1}, RibbonPosts::goBack);
            for (int slot = 0; slot <= 1; slot++) {
                int kept = slot;
                edges.refused(() -> onlyIn(kept), "goBack beside " + slot, Edges.STATE, posts -> posts.goBack(1 - kept));
            }
        });
    }

    private static RibbonPosts onlyIn(int slot) {
        RibbonPosts posts = Checks.drawn("ae7");
        posts.keep(slot);
        return posts;
    }

    private void undo() {
        edges.promise(16, "Restores the latest saved state, and drops it.", () -> {
            RibbonPosts posts = Edges.rich();
            String before = Checks.state(posts);
            posts.order(1);
            String ordered = Checks.state(posts);
            posts.settle();
            posts.undo();
            edges.same("the latest", Checks.state(posts), ordered);
            posts.undo();
            edges.same("the one before", Checks.state(posts), before);
        });
        edges.promise(16, "Restores the latest saved state, and drops it.", () -> {
            // It saves nothing itself: after it and another call there is no way to what it took back.
            RibbonPosts posts = new RibbonPosts();
            posts.ribbon(0, 4, 1);
            posts.undo();
            posts.ribbon(1, 5, 2);
            posts.undo();
            edges.same("ribbons", posts.count(0), 0);
            edges.same("none is left", "" + Checks.outcome(() -> posts.undo()), "" + Edges.STATE);
        });
        edges.promise(16, "Returns how many saved states are left.", () -> {
            RibbonPosts posts = Edges.full();
            for (int left = 5; left >= 0; left--) {
                edges.same("undo", posts.undo(), left);
                edges.same("count(9)", posts.count(9), left);
            }
        });
        edges.promise(16, "Throws `IllegalStateException` if there is none", () -> {
            edges.refused(RibbonPosts::new, "undo", Edges.STATE, RibbonPosts::undo);
            edges.refused(SnapshotEdges::undone, "undo of more than 6", Edges.STATE, RibbonPosts::undo);
        });
    }

    private static RibbonPosts undone() {
        RibbonPosts posts = Edges.full();
        posts.keep(0);
        for (int call = 0; call < 6; call++) {
            posts.undo();
        }
        return posts;
    }
}
