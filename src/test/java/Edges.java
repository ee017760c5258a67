import java.io.IOException;
import java.nio.file.Files;
import java.nio.file.Path;
import java.util.ArrayList;
import java.util.Arrays;
import java.util.Comparator;
import java.util.List;

/**
 * Tests that each hold one sentence of the document, by its own words: a test
 * names the promise and the sentence, and at the end no words may be left that
 * no test has named.
 */
final class Edges {
    interface Edge {
        void look();
    }

    interface Made {
        RibbonPosts make();
    }

    interface CallOn {
        long answer(RibbonPosts posts);
    }

    static final Class<?> INDEX = IndexOutOfBoundsException.class;
    static final Class<?> ARGUMENT = IllegalArgumentException.class;
    static final Class<?> STATE = IllegalStateException.class;

    private static final int PROMISES = 26;
    private static final Path DOC = Path.of("../shared/DOC.md");
    /** Lines of the document that say nothing that a call could break. */
    private static final String NO_WORDS = "(?m)^(#.*|Posts, ribbons|Snapshots, undo|Ahead of the calls .*|`[^`]*`: )";

    private final Checks checks = new Checks();
    /** Where the tests stand without the document, the calls are looked at and the words are not. */
    private final boolean hasDoc;
    /** At 0 what stands before the promises, behind it each promise. */
    private final String[] sections = new String[PROMISES + 1];
    private final List<List<String>> named = new ArrayList<>();

    Edges() throws IOException {
        hasDoc = Files.exists(DOC);
        String[] parts = hasDoc ? Files.readString(DOC).split("\n## ") : new String[0];
        Arrays.fill(sections, "");
        for (String part : parts) {
            int number = part.startsWith("Promise ") ? Integer.parseInt(part.substring(8, part.indexOf(':'))) : 0;
            if (number > 0) {
                sections[number] = "# " + part;
            } else if (part.startsWith("What it is") || part.startsWith("Terms")) {
                sections[0] += "# " + part;
            }
        }
        for (int number = 0; number <= PROMISES; number++) {
            named.add(new ArrayList<>());
        }
    }

    /** A sentence of what stands before the promises. */
    void term(String sentence, Edge edge) {
        promise(0, sentence, edge);
    }

    void promise(int number, String sentence, Edge edge) {
        checks.about((number == 0 ? "terms" : "promise " + number) + ", \"" + sentence + "\": ");
        if (hasDoc && !sections[number].contains(sentence)) {
            checks.report("there is no such sentence");
        }
        named.get(number).add(sentence);
        try {
            edge.look();
        } catch (RuntimeException thrown) {
            checks.report("unexpected " + thrown);
        }
        checks.about("");
    }

    /** No word of the document may be left when all that is named is taken out. */
    void end() {
        for (int number = 0; hasDoc && number <= PROMISES; number++) {
            String left = sections[number];
            List<String> sentences = named.get(number);
            sentences.sort(Comparator.comparing(String::length).reversed());
            for (String sentence : sentences) {
                left = left.replace(sentence, "");
            }
            left = left.replaceAll(NO_WORDS, "");
            if (number == 0) {
                left = left.substring(left.indexOf("snapshots and undo.") + "snapshots and undo.".length());
            }
            if (left.matches("(?s).*[A-Za-z0-9].*")) {
                checks.report("promise " + number + ": no test names: " + left.trim());
            }
        }
        checks.end();
    }

    void same(String what, long got, long due) {
        checks.same(what, got, due);
    }

    void same(String what, double got, double due) {
        checks.same(what, got, due);
    }

    void same(String what, String got, String due) {
        if (!got.equals(due)) {
            checks.report(what + " told " + got + ", due is " + due);
        }
    }

    /** The call must throw just this class, and the object go on like one that was not called. */
    void refused(Made made, String what, Class<?> due, CallOn call) {
        RibbonPosts posts = made.make();
        Object got = Checks.outcome(() -> call.answer(posts));
        if (got != due) {
            checks.report(what + " answered " + got + ", due is " + due);
        }
        same("what comes after " + what, after(posts), after(made.make()));
    }

    void refusedByAll(Made made, String what, Class<?> due, int[] numbers, CallWith call) {
        for (int number : numbers) {
            refused(made, what + " of " + number, due, posts -> call.answer(posts, number));
        }
    }

    interface CallWith {
        long answer(RibbonPosts posts, int number);
    }

    /** All that can be seen of an object: itself, its slots, its saved states. */
    static String after(RibbonPosts posts) {
        StringBuilder text = new StringBuilder(Checks.state(posts));
        text.append(", digests ").append(posts.digest());
        for (int saved = posts.count(9); saved > 0 && saved < 7; saved--) {
            posts.undo();
            text.append(' ').append(posts.digest());
        }
        for (int slot = 0; slot < 2; slot++) {
            int number = slot;
            if (Checks.outcome(() -> posts.goBack(number)) != STATE) {
                text.append(" slot ").append(slot).append(' ').append(posts.digest());
            }
        }
        return text.toString();
    }

    /** The call saves one state, that from before it, and nothing of the buffer and the slots is in it. */
    void undoable(Made made, String what, CallOn call) {
        RibbonPosts posts = made.make();
        String before = Checks.state(posts);
        long saved = posts.count(9);
        call.answer(posts);
        same("saved by " + what, posts.count(9), Math.min(saved + 1, 6));
        Checks.write(posts, "~");
        posts.keep(1);
        String kept = Checks.state(posts);
        posts.undo();
        same("state after undo of " + what, Checks.state(posts), before);
        same("buffer after undo of " + what, posts.clearBuffer(), 1);
        posts.goBack(1);
        same("slot after undo of " + what, Checks.state(posts), kept);
        same("saved after undo of " + what, posts.count(9), Math.min(saved, 5) + 1);
    }

    /** The call answers the same twice, and the object goes on like one that was not called. */
    void changesNothing(Made made, String what, CallOn call) {
        RibbonPosts posts = made.make();
        long first = call.answer(posts);
        same(what + " again", call.answer(posts), first);
        same("what comes after " + what, after(posts), after(made.make()));
    }

    /** An object in which all is there: ribbons of all kinds, orders, a buffer, slots, saved states. */
    static RibbonPosts rich() {
        RibbonPosts posts = Checks.drawn("af9;be3;em2;jp6;na40;bi7;al2;cj9");
        posts.keep(0);
        posts.swap(4, 6);
        posts.trim(9);
        posts.keep(1);
        posts.swap(0, 3);
        posts.widen(1, 12);
        Checks.write(posts, "ae5;bf");
        return posts;
    }

    /** As many ribbons as there may be. */
    static RibbonPosts full() {
        RibbonPosts posts = new RibbonPosts();
        for (int number = 0; number < 20; number++) {
            posts.ribbon(number % 4, 4 + number % 12, 1 + number);
        }
        return posts;
    }
}
