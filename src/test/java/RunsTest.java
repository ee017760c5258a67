/** Long runs of mixed calls, each answer compared with the model's. */
final class RunsTest {
    private static final int RUNS = 800;
    /** What an object answers after so many calls is free. */
    private static final int CALLS = 512;

    private final Checks checks = new Checks();
    private RibbonPosts posts;
    private Model model;
    private long seed;
    private int calls;

    public static void main(String[] args) {
        RunsTest test = new RunsTest();
        for (int run = 0; run < RUNS; run++) {
            test.run(run);
        }
        test.checks.end();
    }

    private int below(int bound) {
        seed = seed * 6364136223846793005L + 1442695040888963407L;
        return (int) Long.remainderUnsigned(seed >>> 33, bound);
    }

    private void run(int number) {
        seed = 7919L * number + 17;
        posts = new RibbonPosts();
        model = new Model();
        calls = 0;
        while (hasCalls()) {
            oneCall("run " + number + ", call " + calls + ": ", number % 4);
        }
        same("run " + number + ": digest", () -> posts.digest(), () -> model.digest());
    }

    /** The last one is kept for the digest. */
    private boolean hasCalls() {
        return calls < CALLS - 1;
    }

    private void same(String what, Checks.Call call, Checks.Call due) {
        calls++;
        Object got = Checks.outcome(call);
        Object wanted = Checks.outcome(due);
        if (!got.equals(wanted)) {
            checks.report(what + " answered " + got + ", due is " + wanted);
        }
    }

    private int post() {
        return below(40) == 0 ? below(2) * 17 - 1 : below(16);
    }

    /** In some runs the ribbons go from few posts to few posts, so that they share ends. */
    private int post(int kind) {
        return kind == 1 ? 4 * below(4) + below(2) : post();
    }

    private int ribbon() {
        return below(30) == 0 ? below(2) * 21 - 1 : below(Math.max(1, model.count(0)));
    }

    private int number(int low, int high) {
        return below(20) == 0 ? (below(2) == 0 ? low - 1 : high + 1) : low + below(high - low + 1);
    }

    private void oneCall(String at, int kind) {
        int choice = below(34);
        if (choice < 9) {
            int from = post(kind);
            int to = kind == 2 ? Math.min(15, from + 4 - from % 4 + below(4)) : post(kind);
            int width = kind == 3 ? 1 + below(3) : number(1, 50);
            same(at + "ribbon(" + from + ", " + to + ", " + width + ")",
                    () -> posts.ribbon(from, to, width), () -> model.ribbon(from, to, width));
        } else if (choice < 16) {
            change(at, choice);
        } else if (choice < 22) {
            textOrSnapshot(at, choice);
        } else {
            look(at, choice);
        }
    }

    private void change(String at, int choice) {
        int a = post();
        int b = below(3) == 0 ? post() : a < 0 ? a : a / 4 * 4 + below(4);
        int r = ribbon();
        int width = number(0, 50);
        int column = number(0, 3);
        switch (choice) {
            case 9:
                same(at + "widen(" + r + ", " + width + ")", () -> posts.widen(r, width), () -> model.widen(r, width));
                break;
            case 10:
                same(at + "remove(" + r + ")", () -> posts.remove(r), () -> model.remove(r));
                break;
            case 11:
                same(at + "swap(" + a + ", " + b + ")", () -> posts.swap(a, b), () -> model.swap(a, b));
                break;
            case 12:
                same(at + "sweep()", () -> posts.sweep(), () -> model.sweep());
                break;
            case 13:
                same(at + "order(" + column + ")", () -> posts.order(column), () -> model.order(column));
                break;
            case 14:
                int inner = number(4, 11);
                same(at + "trim(" + inner + ")", () -> posts.trim(inner), () -> model.trim(inner));
                break;
            default:
                if (below(4) == 0) {
                    same(at + "settle()", () -> posts.settle(), () -> model.settle());
                }
        }
    }

    private void textOrSnapshot(String at, int choice) {
        int slot = number(0, 1);
        switch (choice) {
            case 16:
                appendSome(at);
                break;
            case 17:
                same(at + "clearBuffer()", () -> posts.clearBuffer(), () -> model.clearBuffer());
                break;
            case 18:
                same(at + "load()", () -> posts.load(), () -> model.load());
                break;
            case 19:
                same(at + "keep(" + slot + ")", () -> posts.keep(slot), () -> model.keep(slot));
                break;
            case 20:
                same(at + "goBack(" + slot + ")", () -> posts.goBack(slot), () -> model.goBack(slot));
                break;
            default:
                same(at + "undo()", () -> posts.undo(), () -> model.undo());
        }
    }

    private void appendSome(String at) {
        String text = randomText();
        for (int index = 0; index < text.length() && hasCalls(); index++) {
            int code = below(60) == 0 ? number(33, 126) : text.charAt(index);
            same(at + "append(" + code + ")", () -> posts.append(code), () -> model.append(code));
        }
        if (hasCalls()) {
            same(at + "firstError()", () -> posts.firstError(), () -> model.firstError());
        }
    }

    private String randomText() {
        StringBuilder text = new StringBuilder();
        int pieces = 1 + below(6);
        for (int piece = 0; piece < pieces; piece++) {
            text.append(piece > 0 || below(3) == 0 ? ";" : "");
            text.append((char) ('a' + below(16))).append((char) ('a' + below(16)));
            text.append(below(10) == 0 ? below(60) : 1 + below(50));
        }
        return text.toString();
    }

    private void look(String at, int choice) {
        int a = post();
        int b = below(3) == 0 ? post() : a < 0 ? a : a / 4 * 4 + below(4);
        int r = ribbon();
        int column = number(0, 3);
        switch (choice) {
            case 22:
            case 23:
                int property = number(0, 7);
                same(at + "postOf(" + a + ", " + property + ")",
                        () -> posts.postOf(a, property), () -> model.postOf(a, property));
                break;
            case 24:
                int part = number(0, 4);
                same(at + "ribbonOf(" + r + ", " + part + ")",
                        () -> posts.ribbonOf(r, part), () -> model.ribbonOf(r, part));
                break;
            case 25:
            case 26:
                int what = number(0, 9);
                same(at + "count(" + what + ")", () -> posts.count(what), () -> model.count(what));
                break;
            case 27:
                same(at + "ifSwapped(" + a + ", " + b + ")",
                        () -> posts.ifSwapped(a, b), () -> model.ifSwapped(a, b));
                break;
            case 28:
                same(at + "bestOrder(" + column + ")",
                        () -> posts.bestOrder(column), () -> model.bestOrder(column));
                break;
            case 29:
                same(at + "ifSettled()", () -> posts.ifSettled(), () -> model.ifSettled());
                break;
            case 30:
                same(at + "mainRibbon()", () -> posts.mainRibbon(), () -> model.mainRibbon());
                break;
            case 31:
                same(at + "height(" + column + ")", () -> posts.height(column), () -> model.height(column));
                break;
            case 32:
                same(at + "throughShare()", () -> Double.doubleToLongBits(posts.throughShare()),
                        () -> Double.doubleToLongBits(model.throughShare()));
                break;
            default:
                same(at + "digest()", () -> posts.digest(), () -> model.digest());
        }
    }
}
