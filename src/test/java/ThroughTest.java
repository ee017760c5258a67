/** Promises 19 (6 and 7), 23 and 25: what goes through, mainRibbon, throughShare. */
final class ThroughTest {
    private static final Checks CHECKS = new Checks();

    public static void main(String[] args) {
        through();
        looksAreFresh();
        mainRibbon();
        mainOfZeros();
        share();
        CHECKS.end();
    }

    private static void goes(String text, int most, int main, double share) {
        RibbonPosts posts = Checks.drawn(text);
        CHECKS.same("count(6) of " + text, posts.count(6), most);
        CHECKS.same("count(7) of " + text, posts.count(7), most);
        CHECKS.same("mainRibbon of " + text, posts.mainRibbon(), main);
        CHECKS.same("throughShare of " + text, posts.throughShare(), share);
        CHECKS.same("saved after looks", posts.count(9), 1);
        CHECKS.tells("looks", posts, text);
    }

    private static void through() {
        goes("am5", 5, 0, 1.0);
        goes("ae5;em3", 3, 0, 3 / 5.0);
        goes("ae5;ei9;ip4", 4, 0, 4 / 5.0);
        goes("ai5;im6;bf2;fm7", 7, 0, 1.0);
        // What begins at an inner post, or ends there, goes not through.
        goes("ei5;im5", 0, 0, 1.0);
        goes("ae5;bi7", 0, 0, 0.0);
        // Ribbons back don't help.
        goes("ai5;ie5;em5", 0, 0, 0.0);
        goes("ma9;ae2;em8", 2, 1, 1.0);
        // The second way takes back what the first one took from e to i.
        goes("ae1;af1;ei1;ej1;fi1;im1;jm1", 2, 0, 1.0);
        goes("ae3;af5;ei3;ej4;fi5;im5;jm9", 8, 1, 1.0);
        // The cuts beside the first column alone, and before the last one alone.
        goes("ae2;ei9;ip9", 2, 0, 1.0);
        goes("ae9;ei8;ip1", 1, 0, 1 / 9.0);
        goes("ae50;be50;ce50;de50;em50;en50;eo50;ep50", 200, 0, 1.0);
        goes("ae9;be4;ei6;ej3;im2;jm9;el1;lp5", 6, 3, 6 / 13.0);
    }

    /** Nothing is left over from a look at other ribbons. */
    private static void looksAreFresh() {
        RibbonPosts posts = Checks.drawn("ae9;em4;am7;bn6");
        CHECKS.same("count(6) of four", posts.count(6), 17);
        CHECKS.same("count(7) of four", posts.count(7), 17);
        CHECKS.same("mainRibbon of four", posts.mainRibbon(), 2);
        posts.remove(2);
        CHECKS.same("count(6) of three", posts.count(6), 10);
        CHECKS.same("count(7) of three", posts.count(7), 10);
        CHECKS.same("mainRibbon of three", posts.mainRibbon(), 2);
        posts.widen(2, 1);
        CHECKS.same("count(6) after widen", posts.count(6), 5);
        CHECKS.same("count(7) after widen", posts.count(7), 5);
        CHECKS.same("mainRibbon after widen", posts.mainRibbon(), 0);
        CHECKS.same("throughShare after widen", posts.throughShare(), 5 / 10.0);
    }

    private static void mainRibbon() {
        CHECKS.same("mainRibbon of none", new RibbonPosts().mainRibbon(), RibbonPosts.NONE);
        CHECKS.same("throughShare of none", new RibbonPosts().throughShare(), 1.0);
        goes("ma5;ea7", 0, RibbonPosts.NONE, 1.0);
        goes("am5;am9;bn9", 23, 1, 1.0);
        goes("ea9;ae3", 0, 1, 0.0);
        goes("am2;ae9;ei7;im9", 9, 1, 9 / 11.0);
        goes("am2;ei7;ae9;im9", 9, 1, 9 / 11.0);
        // Without bf nothing is lost that ae could not bring.
        goes("ae9;bf9;ei9;fi9;im9;dp8", 17, 4, 17 / 26.0);
    }

    private static void mainOfZeros() {
        RibbonPosts posts = Checks.drawn("ea5;ae5;em5");
        posts.widen(1, 0);
        CHECKS.same("count(6) of zeros", posts.count(6), 0);
        CHECKS.same("mainRibbon of zeros", posts.mainRibbon(), 1);
        CHECKS.same("throughShare of zeros", posts.throughShare(), 1.0);
        posts.ribbon(0, 12, 1);
        CHECKS.same("mainRibbon beside zeros", posts.mainRibbon(), 3);
    }

    /** What leaves counts for the column 0 alone, and only what goes on. */
    private static void share() {
        goes("am1;ae2", 1, 0, 1 / 3.0);
        goes("am1;ei2;pa7", 1, 0, 1.0);
        goes("am1;bn1;ce1;di4", 2, 0, 2 / 7.0);
    }
}
