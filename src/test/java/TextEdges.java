/** Promises 10 to 13: append, clearBuffer, firstError, load. */
final class TextEdges {
    private final Edges edges;

    TextEdges(Edges edges) {
        this.edges = edges;
    }

    void all() {
        append();
        wrongAppend();
        clearBuffer();
        firstError();
        load();
        loadsAndStays();
    }

    private static RibbonPosts written(String text) {
        RibbonPosts posts = Checks.drawn("bf3");
        Checks.write(posts, text);
        return posts;
    }

    private void append() {
        edges.promise(10, "Appends a character to the buffer.", () -> {
            RibbonPosts posts = written("ae");
            posts.append('5');
            edges.same("load of what is appended", posts.load(), 1);
            edges.same("ribbons", Checks.told(posts), "ae5");
            edges.same("saved by both loads alone", posts.count(9), 2);
        });
        edges.promise(10, "- `code`: the character code, 33 to 126", () -> {
            RibbonPosts posts = new RibbonPosts();
            for (int code = 33; code <= 126; code++) {
                if (posts.append(code) == 60) {
                    posts.clearBuffer();
                }
            }
            edges.same("94 codes, 60 of them cleared", posts.clearBuffer(), 34);
        });
        edges.promise(10, "Returns the new length of the buffer.", () -> {
            RibbonPosts posts = new RibbonPosts();
            for (int length = 1; length <= 60; length++) {
                edges.same("length", posts.append(126), length);
            }
            posts.clearBuffer();
            edges.same("length after clearBuffer", posts.append(33), 1);
        });
    }

    private void wrongAppend() {
        int[] codes = {32, 127, 31, 128, 0, -1, 256 + 97, Integer.MIN_VALUE, Integer.MAX_VALUE};
        edges.promise(10, "Throws `IllegalArgumentException` if code is not 33 to 126", () ->
            edges.refusedByAll(() -> written("ae"), "append", Edges.ARGUMENT, codes, RibbonPosts::append));
        edges.promise(10, "Throws `IllegalStateException` if the buffer has 60 characters", () -> {
            String text = "ae10;".repeat(12);
            edges.refusedByAll(() -> written(text), "append", Edges.STATE, new int[] {33, 'e', 126}, RibbonPosts::append);
            edges.same("append to 59", written(text.substring(1)).append('e'), 60);
        });
    }

    private void clearBuffer() {
        edges.promise(11, "Clears the buffer.", () -> {
            RibbonPosts posts = written("ae1;x");
            posts.clearBuffer();
            Checks.write(posts, "ae2");
            posts.load();
            edges.same("ribbons of what was written then", Checks.told(posts), "ae2");
            RibbonPosts other = written("abc");
            other.clearBuffer();
            edges.same("what comes after", Edges.after(other), Edges.after(Checks.drawn("bf3")));
        });
        edges.promise(11, "Returns the length that it had.", () -> {
            RibbonPosts posts = written("ae10;".repeat(12));
            edges.same("of 60", posts.clearBuffer(), 60);
            edges.same("of an empty one", posts.clearBuffer(), 0);
            posts.append(33);
            edges.same("of 1", posts.clearBuffer(), 1);
        });
    }

    private void firstError() {
        edges.promise(12, "Finds the first syntax error of the buffer.", () -> {
            edges.same("of two", written("ae0;qq").firstError(), 2);
            edges.changesNothing(() -> written("ae0;qq"), "firstError", RibbonPosts::firstError);
            RibbonPosts posts = written("ae0");
            edges.same("before clearBuffer", posts.firstError(), 2);
            posts.clearBuffer();
            edges.same("after clearBuffer", posts.firstError(), 0);
        });
        String returns = "Returns the index of the first character that is a syntax error; "
                + "the length of the buffer if there is none.";
        edges.promise(12, returns, () -> {
            String[] wrong = {"1", ";", "q", "`", "A", "!", "~", "aa", "ad", "eh", "il", "mp", "aq", "a`", "a1", "a;",
                "ae0", "ae;", "aee", "ae/", "ae:", "ae51", "ae59", "ae60", "ae99", "ae100", "ae500", "ae5a", "ae50a",
                "ae1;;", "ae1;1", "ae1;q", "ae1;eh", "ae12,", "ae4/", "ae4:", "ae5/", "ae5:", "ae9/", "ae9:", "ae10:"};
            for (String text : wrong) {
                edges.same("firstError of " + text, written(text).firstError(), text.length() - 1);
                edges.same("firstError of more than " + text, written(text + "~").firstError(), text.length() - 1);
            }
        });
        edges.promise(12, returns, () -> {
            String[] none = {"", "a", "p", "ae", "ap", "pa", "pl", "ae1", "ae5", "ae9", "ae10", "ae49", "ae50", "ae1;",
                "ae50;b", "ae9;ea49;le7", "ae10;".repeat(12), "ae10;".repeat(11) + "bf25"};
            for (String text : none) {
                edges.same("firstError of " + text, written(text).firstError(), text.length());
            }
        });
    }

    private void load() {
        edges.promise(13, "Undoable.", () -> {
            edges.undoable(() -> written("ae5;fb6"), "load", RibbonPosts::load);
            edges.undoable(() -> written("bf3"), "load of what is there", RibbonPosts::load);
        });
        edges.promise(13, "Returns how many there are then.", () -> {
            edges.same("one", written("ae1").load(), 1);
            edges.same("three", written("ae1;ae1;ea50").load(), 3);
            edges.same("fifteen, as many as there can be", written("ae1;".repeat(14) + "bf20").load(), 15);
            RibbonPosts full = Edges.full();
            edges.same("in place of 20", Checks.load(full, "ae1;bf2"), 2);
        });
        edges.promise(13, "Throws `IllegalArgumentException` if the buffer does not tell a drawing as a text", () -> {
            String[] none = {"", "a", "ae", "ae1;", "ae1;b", "ae1;bf", "ae0", "ae51", "ab1", ";", ";ae1", "ae1;;bf1",
                "ae01", "ae1bf1", "q", "ae100", "ae1;aa9", "ae10;".repeat(12)};
            for (String text : none) {
                edges.refused(() -> written(text), "load of " + text, Edges.ARGUMENT, RibbonPosts::load);
            }
        });
    }

    private void loadsAndStays() {
        String takes = "Takes the ribbons in the buffer in place of all that there are, and clears the buffer; "
                + "the orders stay.";
        edges.promise(13, takes, () -> {
            RibbonPosts posts = written("ae1;pa50;dm49");
            posts.load();
            edges.same("ribbons", Checks.told(posts), "ae1;pa50;dm49");
            edges.same("no fourth one", "" + Checks.outcome(() -> posts.ribbonOf(3, 0)), "" + Edges.INDEX);
        });
        edges.promise(13, takes, () -> {
            RibbonPosts posts = written("ae1;pa50;dm49");
            posts.load();
            edges.same("buffer", posts.clearBuffer(), 0);
            edges.same("again", "" + Checks.outcome(() -> posts.load()), "" + Edges.ARGUMENT);
        });
        edges.promise(13, takes, () -> {
            RibbonPosts posts = written("ae1");
            posts.swap(4, 6);
            posts.swap(0, 3);
            posts.trim(5);
            posts.load();
            edges.same("state", Checks.state(posts), "ae1 column 3120 column 2103 column 123 column 123 trimmed 3");
        });
    }
}
