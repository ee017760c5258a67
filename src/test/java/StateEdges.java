/** Terms: how long an object is used, snapshots, undo, exceptions, looks. */
final class StateEdges {
    private final Edges edges;

    StateEdges(Edges edges) {
        this.edges = edges;
    }

    void all() {
        manyCalls();
        snapshots();
        savedStates();
        sixStates();
        refusals();
        firstNamed();
        looks();
    }

    private void manyCalls() {
        edges.term("An object is used for at most 512 calls after it has been made; what later calls answer is free.",
                () -> {
                    RibbonPosts posts = new RibbonPosts();
                    Model model = new Model();
                    for (int call = 0; call < 511; call++) {
                        int number = call;
                        edges.same("call " + call, "" + Checks.outcome(() -> called(posts, number)),
                                "" + Checks.outcome(() -> called(model, number)));
                    }
                    edges.same("the call 512", posts.digest(), model.digest());
                });
    }

    private static long called(RibbonPosts posts, int call) {
        switch (call % 9) {
            case 0: return posts.ribbon(call % 4, 4 + call % 12, 1 + call % 50);
            case 1: return posts.widen(call % 7, call % 51);
            case 2: return posts.swap(call % 16, call % 16 ^ 1);
            case 3: return posts.append('a' + call % 16);
            case 4: return call % 2 == 0 ? posts.undo() : posts.keep(call % 4 / 2);
            case 5: return posts.ribbon(4 + call % 4, 8 + call % 8, 50);
            case 6: return call % 4 == 0 ? posts.goBack(call % 8 / 4) : posts.remove(call % 5);
            case 7: return posts.sweep();
            default: return posts.trim(4 + call % 8);
        }
    }

    private static long called(Model posts, int call) {
        switch (call % 9) {
            case 0: return posts.ribbon(call % 4, 4 + call % 12, 1 + call % 50);
            case 1: return posts.widen(call % 7, call % 51);
            case 2: return posts.swap(call % 16, call % 16 ^ 1);
            case 3: return posts.append('a' + call % 16);
            case 4: return call % 2 == 0 ? posts.undo() : posts.keep(call % 4 / 2);
            case 5: return posts.ribbon(4 + call % 4, 8 + call % 8, 50);
            case 6: return call % 4 == 0 ? posts.goBack(call % 8 / 4) : posts.remove(call % 5);
            case 7: return posts.sweep();
            default: return posts.trim(4 + call % 8);
        }
    }

    private void snapshots() {
        String slots = "There are two slots; a snapshot is all but the buffer, the slots and the saved states.";
        edges.term(slots, () -> {
            RibbonPosts posts = Checks.drawn("ae1");
            posts.keep(0);
            posts.ribbon(1, 5, 2);
            posts.keep(1);
            posts.remove(0);
            edges.same("back to 0", posts.goBack(0), 1);
            edges.same("back to 1", posts.goBack(1), 2);
            edges.same("no slot 2", "" + Checks.outcome(() -> posts.keep(2)), "" + Edges.ARGUMENT);
            edges.same("no slot -1", "" + Checks.outcome(() -> posts.keep(-1)), "" + Edges.ARGUMENT);
        });
        edges.term(slots, () -> {
            // The ribbons, the orders, what is trimmed: all comes back.
            RibbonPosts posts = Edges.rich();
            posts.keep(0);
            String kept = Checks.state(posts);
            posts.settle();
            posts.swap(13, 14);
            posts.remove(0);
            posts.goBack(0);
            edges.same("all comes back", Checks.state(posts), kept);
        });
        edges.term(slots, () -> {
            RibbonPosts posts = Checks.drawn("ae1");
            Checks.write(posts, "ab");
            posts.keep(0);
            posts.append('c');
            posts.keep(1);
            posts.sweep();
            posts.goBack(0);
            edges.same("saved states stay", posts.count(9), 3);
            edges.same("the buffer stays", posts.clearBuffer(), 3);
            edges.same("the other slot stays", posts.goBack(1), 1);
        });
    }

    private void savedStates() {
        String saves = "Each method that is marked \"undoable\" and does not throw an exception saves the state from "
                + "before it (also if it changes nothing): all, also what is counted so far, but the buffer, the slots "
                + "and the saved states.";
        edges.term(saves, () -> {
            RibbonPosts posts = Checks.drawn("ae5;ei5;im5");
            int[] saved = {posts.count(9), posts.widen(0, 5) - 5, posts.sweep(), posts.order(1), posts.trim(4),
                posts.settle(), posts.keep(0) - 3};
            edges.same("saved by five that change nothing", posts.count(9), 6);
            edges.same("the first of them", saved[0], 1);
            edges.same("undo", posts.undo(), 5);
            edges.same("goBack to what is there", posts.goBack(0), 3);
            edges.same("saved by it", posts.count(9), 6);
            edges.same("nothing is changed", Checks.told(posts), "ae5;ei5;im5");
        });
        edges.term(saves, () -> {
            RibbonPosts posts = Checks.drawn("ae5");
            edges.same("trimmed", posts.trim(4), 5);
            posts.undo();
            edges.same("what is counted so far", posts.count(8), 0);
            edges.same("the widths", posts.count(1), 5);
            posts.settle();
            posts.swap(0, 1);
            posts.undo();
            edges.same("what is counted by then", posts.count(8), 5);
        });
        edges.term(saves, () -> {
            RibbonPosts posts = Edges.rich();
            int saved = posts.count(9);
            Checks.outcome(() -> posts.ribbon(0, 1, 1));
            Checks.outcome(() -> posts.widen(0, 51));
            Checks.outcome(() -> posts.remove(20));
            Checks.outcome(() -> posts.swap(0, 0));
            Checks.outcome(() -> posts.order(4));
            Checks.outcome(() -> posts.trim(12));
            Checks.outcome(() -> posts.load());
            Checks.outcome(() -> posts.goBack(2));
            edges.same("saved by those that throw", posts.count(9), saved);
        });
        edges.term(saves, () -> {
            RibbonPosts posts = Checks.drawn("ae5");
            posts.append('a');
            posts.keep(0);
            posts.firstError();
            posts.clearBuffer();
            edges.same("saved by those that are not undoable", posts.count(9), 1);
        });
        edges.term(saves, () -> {
            RibbonPosts posts = new RibbonPosts();
            posts.ribbon(0, 4, 1);
            posts.ribbon(0, 4, 2);
            Checks.write(posts, "abc");
            posts.keep(0);
            edges.same("undo", posts.undo(), 1);
            edges.same("the buffer stays", posts.clearBuffer(), 3);
            edges.same("the slot stays", posts.goBack(0), 2);
            edges.same("the saved states stay", posts.count(9), 2);
        });
    }

    private void sixStates() {
        String six = "At most 6 states are saved; the oldest one is dropped first.";
        edges.term(six, () -> {
            RibbonPosts posts = new RibbonPosts();
            for (int width = 1; width <= 20; width++) {
                posts.ribbon(0, 4, width);
                edges.same("saved after " + width, posts.count(9), Math.min(width, 6));
            }
            for (int left = 5; left >= 0; left--) {
                edges.same("undo", posts.undo(), left);
                edges.same("ribbons with " + left + " left", posts.count(0), 14 + left);
            }
            edges.same("the seventh", "" + Checks.outcome(() -> posts.undo()), "" + Edges.STATE);
        });
        edges.term(six, () -> {
            // Round the ring from each of its places, with undos between.
            for (int first = 0; first < 14; first++) {
                RibbonPosts posts = Checks.drawn("ae1");
                for (int call = 0; call < first; call++) {
                    posts.swap(0, 1);
                }
                for (int width = 2; width <= 9; width++) {
                    posts.widen(0, width);
                }
                edges.same("undo after " + first, posts.undo(), 5);
                edges.same("undo after " + first, posts.undo(), 4);
                posts.widen(0, 30);
                posts.widen(0, 31);
                posts.widen(0, 32);
                StringBuilder widths = new StringBuilder();
                for (int saved = posts.count(9); saved > 0 && saved < 7; saved--) {
                    posts.undo();
                    widths.append(' ').append(posts.ribbonOf(0, 2));
                }
                edges.same("widths before, after " + first, widths.toString(), " 31 30 7 6 5 4");
            }
        });
    }

    private void refusals() {
        edges.term("A call that throws an exception changes nothing (the buffer stays as it is, too).", () -> {
            refused("ribbon", Edges.INDEX, posts -> posts.ribbon(0, 16, 1));
            refused("ribbon", Edges.ARGUMENT, posts -> posts.ribbon(0, 4, 51));
            refused("widen", Edges.INDEX, posts -> posts.widen(8, 1));
            refused("widen", Edges.ARGUMENT, posts -> posts.widen(7, 51));
            refused("remove", Edges.INDEX, posts -> posts.remove(8));
            refused("swap", Edges.INDEX, posts -> posts.swap(0, 16));
            refused("swap", Edges.ARGUMENT, posts -> posts.swap(0, 4));
            refused("order", Edges.INDEX, posts -> posts.order(4));
            refused("trim", Edges.INDEX, posts -> posts.trim(12));
            refused("append", Edges.ARGUMENT, posts -> posts.append(127));
            refused("load", Edges.ARGUMENT, RibbonPosts::load);
            refused("keep", Edges.ARGUMENT, posts -> posts.keep(2));
            refused("goBack", Edges.ARGUMENT, posts -> posts.goBack(2));
        });
        edges.term("A call that throws an exception changes nothing (the buffer stays as it is, too).", () -> {
            refused("postOf", Edges.INDEX, posts -> posts.postOf(16, 0));
            refused("postOf", Edges.ARGUMENT, posts -> posts.postOf(15, 8));
            refused("ribbonOf", Edges.INDEX, posts -> posts.ribbonOf(8, 0));
            refused("ribbonOf", Edges.ARGUMENT, posts -> posts.ribbonOf(7, 5));
            refused("count", Edges.ARGUMENT, posts -> posts.count(10));
            refused("ifSwapped", Edges.INDEX, posts -> posts.ifSwapped(0, 16));
            refused("ifSwapped", Edges.ARGUMENT, posts -> posts.ifSwapped(0, 4));
            refused("bestOrder", Edges.INDEX, posts -> posts.bestOrder(4));
            refused("height", Edges.INDEX, posts -> posts.height(4));
        });
        edges.term("A call that throws an exception changes nothing (the buffer stays as it is, too).", () -> {
            edges.refused(Edges::full, "ribbon of 20", Edges.STATE, posts -> posts.ribbon(0, 4, 1));
            edges.refused(RibbonPosts::new, "undo of none", Edges.STATE, RibbonPosts::undo);
            edges.refused(StateEdges::withFullBuffer, "append to 60", Edges.STATE, posts -> posts.append('e'));
            edges.refused(StateEdges::withFullBuffer, "goBack to an empty slot", Edges.STATE, posts -> posts.goBack(0));
            edges.refused(StateEdges::withFullBuffer, "load of a full buffer", Edges.ARGUMENT, RibbonPosts::load);
        });
    }

    private void refused(String what, Class<?> due, Edges.CallOn call) {
        edges.refused(Edges::rich, what, due, call);
    }

    /** Sixty characters that are no drawing, and no snapshot. */
    private static RibbonPosts withFullBuffer() {
        RibbonPosts posts = Checks.drawn("ae5;bf6");
        Checks.write(posts, "ae10;".repeat(12));
        return posts;
    }

    private void firstNamed() {
        String first = "If several exceptions apply, the one that is named first in the throws clause is thrown.";
        edges.term(first, () -> {
            edges.refused(Edges::full, "ribbon, all three", Edges.INDEX, posts -> posts.ribbon(0, 16, 0));
            edges.refused(Edges::full, "ribbon, all three", Edges.INDEX, posts -> posts.ribbon(-1, -1, 51));
            edges.refused(Edges::full, "ribbon, no post, 20", Edges.INDEX, posts -> posts.ribbon(16, 0, 1));
            edges.refused(Edges::full, "ribbon, one column, 20", Edges.ARGUMENT, posts -> posts.ribbon(0, 1, 1));
            edges.refused(Edges::full, "ribbon, width, 20", Edges.ARGUMENT, posts -> posts.ribbon(0, 4, 0));
            refused("ribbon, no post, width", Edges.INDEX, posts -> posts.ribbon(0, -1, 51));
            refused("ribbon, no post, and the other fine", Edges.INDEX, posts -> posts.ribbon(12, 16, 0));
        });
        edges.term(first, () -> {
            refused("widen, both", Edges.INDEX, posts -> posts.widen(8, 51));
            refused("widen, both", Edges.INDEX, posts -> posts.widen(-1, -1));
            refused("swap, the same that is none", Edges.INDEX, posts -> posts.swap(16, 16));
            refused("swap, the same that is none", Edges.INDEX, posts -> posts.swap(-1, -1));
            refused("swap, none beside the column 3", Edges.INDEX, posts -> posts.swap(15, 16));
            refused("swap, none beside the column 0", Edges.INDEX, posts -> posts.swap(-1, 15));
            refused("ifSwapped, the same that is none", Edges.INDEX, posts -> posts.ifSwapped(16, 16));
            refused("ifSwapped, none beside the column 0", Edges.INDEX, posts -> posts.ifSwapped(15, -1));
            refused("postOf, both", Edges.INDEX, posts -> posts.postOf(16, 8));
            refused("ribbonOf, both", Edges.INDEX, posts -> posts.ribbonOf(8, 5));
        });
        edges.term(first, () -> {
            edges.refused(StateEdges::withFullBuffer, "append, both", Edges.ARGUMENT, posts -> posts.append(32));
            edges.refused(StateEdges::withFullBuffer, "append, both", Edges.ARGUMENT, posts -> posts.append(127));
            edges.refused(RibbonPosts::new, "goBack, both", Edges.ARGUMENT, posts -> posts.goBack(2));
            edges.refused(RibbonPosts::new, "goBack, both", Edges.ARGUMENT, posts -> posts.goBack(-1));
        });
    }

    private void looks() {
        edges.term("---- looks; nothing is changed.", () -> {
            for (int what = 0; what <= 9; what++) {
                int number = what;
                edges.changesNothing(Edges::rich, "count(" + what + ")", posts -> posts.count(number));
                edges.changesNothing(Edges::rich, "postOf(6, " + what % 8 + ")", posts -> posts.postOf(6, number % 8));
                edges.changesNothing(Edges::rich, "ribbonOf(1, " + what % 5 + ")",
                        posts -> posts.ribbonOf(1, number % 5));
            }
        });
        edges.term("---- what would be; nothing is changed.", () -> {
            for (int column = 0; column <= 3; column++) {
                int number = column;
                edges.changesNothing(Edges::rich, "bestOrder", posts -> posts.bestOrder(number));
                edges.changesNothing(Edges::rich, "height", posts -> posts.height(number));
                edges.changesNothing(Edges::rich, "ifSwapped", posts -> posts.ifSwapped(4 * number, 4 * number + 3));
            }
            edges.changesNothing(Edges::rich, "ifSettled", RibbonPosts::ifSettled);
            edges.changesNothing(Edges::rich, "mainRibbon", RibbonPosts::mainRibbon);
            edges.changesNothing(Edges::rich, "throughShare", posts -> (long) (1000 * posts.throughShare()));
            edges.changesNothing(Edges::rich, "digest", RibbonPosts::digest);
            edges.changesNothing(Edges::rich, "firstError", RibbonPosts::firstError);
        });
    }
}
