/** Promises 19 to 21: seen, forget, feigned. */
public final class SeenTest {
    private static final int[] WRONG = {-1, 4, 6, Integer.MAX_VALUE, Integer.MIN_VALUE};

    public static void main(String[] args) {
        seen();
        forget();
        feignedByOne();
        feignedIsFromTheFirst();
        feignedBehindJustSoMany();
        feignedByAll();
        feignedLeavesNothingBehind();
        wrong();
        Check.end();
    }

    private static void seen() {
        NearlyBought x = new NearlyBought();
        Check.due("seen(0, 0, 1)", x.seen(0, 0, 1), 1);
        Check.due("the same once more", x.seen(0, 0, 1), 2);
        Check.due("seen(3, 3, 9)", x.seen(3, 3, 9), 3);
        for (int k = 4; k <= 6; k++) {
            Check.due("seen(1, 2, 3)", x.seen(1, 2, 3), k);
        }
        Check.due("6 at most", x.seen(1, 2, 3), Check.FULL);
        Check.due("BAD ahead of FULL", x.seen(1, 2, 10), Check.BAD);
        Check.due("count(5)", x.count(5), 6);
        Check.due("not undone", x.undo(), Check.NO);
    }

    private static void forget() {
        NearlyBought x = new NearlyBought();
        Check.due("none", x.forget(), 0);
        x.seen(0, 1, 1);
        x.seen(0, 1, 2);
        Check.due("not so", x.feigned(1), 0);
        Check.due("two", x.forget(), 2);
        Check.due("none", x.forget(), 0);
        Check.due("nothing seen is so", x.feigned(1), 1);
        Check.due("seen(0, 0, 5)", x.seen(0, 0, 5), 1);
        Check.due("the old ones are gone", x.feigned(1), 1);
    }

    private static void feignedByOne() {
        String text = "p0,50;p0,50;p0,50;t30;t20;a0,0,10,0;a1,0,9,0;a2,1,9,0;e0;g0;";
        NearlyBought x = Check.laid(text);
        Check.due("nothing seen: all", x.feigned(0), 7);
        x.seen(0, 1, 1);
        Check.due("1 took what 0 would have", x.feigned(1), 0);
        Check.due("0 feigned", x.feigned(0), 1);
        x.seen(1, 2, 1);
        Check.due("0 feigned", x.feigned(0), 1);
        x.forget();
        x.seen(1, 2, 4);
        Check.due("so without", x.feigned(1), 1);
        Check.due("any but 2", x.feigned(0), 3);
        x.seen(0, 2, 4);
        Check.due("nobody", x.feigned(0), 0);
        Check.due("not without, either", x.feigned(1), 0);
    }

    /** Nothing that was done counts, and no YEAR that went by. */
    private static void feignedIsFromTheFirst() {
        NearlyBought x = Check.laid("p0,50;p0,50;t30;a0,0,10,0;a1,0,9,0;e0;g0;");
        x.pause(1, 0, 30);
        x.give(0, 1, 50);
        x.fair();
        Check.due("1 has it", x.thing(0, 1), 1);
        x.seen(0, 0, 1);
        Check.due("from the first 0 has it", x.feigned(1), 1);
        Check.due("without 1 too", x.feigned(0), 2);
        Check.due("it stays as it is", x.thing(0, 1), 1);
        Check.due("coins", x.person(1, 1), 70);
        x.keep();
        x.back();
        Check.due("what is seen stays", x.count(5), 1);
    }

    private static void feignedBehindJustSoMany() {
        NearlyBought x = Check.laid("p0,0;p0,99;t40;t41;a0,0,9,0;a1,1,9,4;e0;g0;");
        Check.due("goes(0)", x.goes(0), 5);
        for (int n = 1; n <= 9; n++) {
            x.forget();
            x.seen(0, 1, n);
            Check.due("seen behind " + n, x.feigned(1), n >= 5 ? 1 : 0);
        }
        Check.due("0 feigned: then nobody's", x.feigned(0), 0);
        x.seen(1, 1, 5);
        x.forget();
        x.seen(1, 1, 4);
        Check.due("too early", x.feigned(1), 0);
        Check.due("too early", x.feigned(0), 0);
    }

    /** Not PAUSED at all: in no YEAR, before no THING; what he earns and pays for others stays. */
    private static void feignedByAll() {
        NearlyBought x = Check.laid("p0,99;p0,99;t10;t10;a0,0,9,0;a0,1,9,3;a0,0,30,2;a1,0,5,0;a1,1,9,5;a1,0,9,4;");
        x.seen(0, 1, 5);
        x.seen(1, 1, 6);
        Check.due("0 feigned", x.feigned(0), 1);
        Check.due("not without", x.feigned(1), 0);
        x.seen(0, 1, 4);
        Check.due("not so early", x.feigned(0), 0);
    }

    /** What would be without one's PAUSES has no say in what would be with them. */
    private static void feignedLeavesNothingBehind() {
        for (int silent = 0; silent < 2; silent++) {
            NearlyBought x = Check.laid("p0,99;p0,99;t10;t10;a0,0,9,3;a1,1,9,4;");
            x.seen(silent, silent, 1);
            Check.due("not so", x.feigned(0), 0);
            Check.due("goes(0)", x.goes(0), 4);
            Check.due("goes(1)", x.goes(1), 5);
            Check.due("never()", x.never(), 0);
            Check.due("greens", x.greens(0, 6, 0), 2);
            Check.fairs(x, 4);
            Check.due("thing 0", x.thing(0, 1), 0);
            Check.due("told for year 4", x.thing(1, 3), 1);
        }
    }

    private static void wrong() {
        NearlyBought x = new NearlyBought();
        for (int w : WRONG) {
            Check.due("seen(" + w + ", 0, 1)", x.seen(w, 0, 1), Check.BAD);
            Check.due("seen(0, " + w + ", 1)", x.seen(0, w, 1), Check.BAD);
            Check.due("feigned(" + w + ")", x.feigned(w), Check.BAD);
        }
        int[] fairs = {0, 10, -1, Integer.MAX_VALUE, Integer.MIN_VALUE};
        for (int n : fairs) {
            Check.due("seen(0, 0, " + n + ")", x.seen(0, 0, n), Check.BAD);
        }
        Check.due("feigned(2)", x.feigned(2), Check.BAD);
        Check.due("nothing is seen", x.count(5), 0);
    }
}
