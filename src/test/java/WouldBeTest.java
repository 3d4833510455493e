/** Promises 13 to 18: behind, goes, never, stop, rank, wanted. */
public final class WouldBeTest {
    private static final int[] WRONG = {-1, 6, Integer.MAX_VALUE, Integer.MIN_VALUE};
    /** Thing 0 goes behind 3 fairs, to person 1; thing 1 at once; thing 2 never. */
    private static final String THREE = "p0,0;p0,99;t40;t41;t60;a0,0,9,0;a1,1,9,0;e0;g0;";

    public static void main(String[] args) {
        behindAndGoes();
        behindPastTheLastYear();
        never();
        stop();
        stopIsByBreaths();
        stopSpoils();
        rank();
        wanted();
        askingChangesNothing();
        wrong();
        Check.end();
    }

    private static void behindAndGoes() {
        NearlyBought x = Check.laid(THREE);
        int[] first = {3, 1, Check.NONE};
        for (int t = 0; t < 3; t++) {
            Check.due("goes(" + t + ")", x.goes(t), first[t]);
            for (int n = 0; n <= 9; n++) {
                int want = t < 2 && n >= first[t] ? 1 : Check.NONE;
                Check.due("behind(" + t + ", " + n + ")", x.behind(t, n), want);
            }
        }
        x.fair();
        Check.due("goes(0) behind one", x.goes(0), 2);
        Check.due("goes(1): it is", x.goes(1), 0);
        Check.due("behind(1, 0)", x.behind(1, 0), 1);
        NearlyBought y = Check.laid("p0,45;t50;a0,0,9,4;e1;g0;");
        Check.due("told for year 4, 50 coins in year 5", y.goes(0), 6);
        Check.due("behind 5", y.behind(0, 5), Check.NONE);
        Check.due("behind 6", y.behind(0, 6), 0);
        NearlyBought z = Check.laid("p0,45;t54;t55;a0,0,9,0;a0,1,9,0;e1;g0;");
        Check.due("54 behind 9 years is at the tenth fair", z.goes(0), Check.NONE);
        z.fair();
        Check.due("now it is the ninth", z.goes(0), 9);
        Check.due("behind 8", z.behind(0, 8), Check.NONE);
        Check.due("behind 9", z.behind(0, 9), 0);
    }

    private static void behindPastTheLastYear() {
        NearlyBought x = Check.laid("p0,0;t2;g9;e30;");
        Check.fairs(x, 99);
        x.pause(0, 0, 9);
        Check.due("its price", x.nearly(0, 0, 4), 893);
        Check.due("behind 1", x.behind(0, 1), 0);
        Check.due("goes(0)", x.goes(0), 1);
        Check.due("never()", x.never(), 0);
        Check.due("fair()", x.fair(), Check.NO);
        NearlyBought y = Check.laid("p0,0;t50;e5;g5;");
        Check.fairs(y, 99);
        y.pause(0, 0, 9);
        Check.due("545 are asked of 495", y.nearly(0, 0, 4), 545);
        Check.due("goes(0) in year 99: NONE in 9 years", y.goes(0), Check.NONE);
        Check.due("stop(0, 0, 0) in year 99", y.stop(0, 0, 0), Check.NONE);
        NearlyBought z = Check.laid("p0,5;t50;e5;g5;");
        Check.fairs(z, 99);
        z.pause(0, 0, 9);
        Check.due("500 and 9 x 5", z.person(0, 1), 500);
        Check.due("at the tenth", z.goes(0), Check.NONE);
        NearlyBought v = Check.laid("p0,10;t50;e5;g5;");
        Check.fairs(v, 99);
        Check.due("stop: 9", v.stop(0, 0, 0), 9);
        Check.due("stop: behind 9", v.stop(0, 0, 1), 9);
        v.pause(0, 0, 9);
        Check.due("at the ninth, in year 107", v.goes(0), 9);
    }

    private static void never() {
        NearlyBought x = Check.laid(THREE);
        Check.due("thing 2", x.never(), 4);
        x.pause(1, 2, 9);
        Check.due("thing 2 is still too dear", x.never(), 4);
        Check.due("thing 0 goes to whom 60 is dearest", x.behind(0, 9), 1);
        NearlyBought y = Check.laid("p0,0;t1;t1;t1;t1;t1;t1;");
        Check.due("all six", y.never(), 63);
        y.pause(0, 5, 9);
        y.pause(0, 0, 9);
        Check.due("but 0 and 5", y.never(), 30);
        y.fair();
        y.fair();
        Check.due("what is somebody's is none", y.never(), 30);
    }

    private static void stop() {
        NearlyBought x = Check.laid("p0,50;p1,50;p2,50;p3,50;t30;t30;a0,1,12,0;e0;g0;");
        int[] fewest = {9, 11, 3, 5};
        for (int i = 0; i < 4; i++) {
            Check.due("nobody's, kind " + i, x.stop(i, 0, 0), fewest[i]);
            Check.due("behind one", x.stop(i, 0, 1), 1);
        }
        int[] more = {0, 15, 5, 7};
        for (int i = 0; i < 4; i++) {
            Check.due("more than 12, kind " + i, x.stop(i, 1, 0), more[i]);
            Check.due("behind one", x.stop(i, 1, 1), 1);
        }
        x.fair();
        Check.due("it is his", x.stop(0, 1, 0), 0);
        Check.due("behind none", x.stop(0, 1, 1), 0);
        Check.due("it is another's", x.stop(2, 1, 0), Check.NONE);
        Check.due("it is another's", x.stop(2, 1, 1), Check.NONE);
        NearlyBought y = Check.laid("p0,45;p0,99;t50;a1,0,30,0;e1;g0;");
        Check.due("30 of the lower one take the claim", y.stop(0, 0, 0), 30);
        Check.due("and the coins come", y.stop(0, 0, 1), 6);
        Check.due("without, it is the other's", y.stop(1, 0, 0), 0);
        NearlyBought z = Check.laid("p0,99;p0,45;t50;a0,0,30,0;e1;g0;");
        Check.due("30 of the higher one do not", z.stop(1, 0, 0), Check.NONE);
        NearlyBought v = Check.laid("p0,40;p0,30;t50;a1,0,30,0;e1;g0;");
        Check.due("the coins come too late", v.stop(0, 0, 0), Check.NONE);
    }

    /** The fewest BREATHS, not the fewest FAIRS; a told PAUSE of his that comes later counts, too. */
    private static void stopIsByBreaths() {
        NearlyBought x = Check.laid("p0,50;t30;a0,0,9,3;");
        Check.due("so without", x.stop(0, 0, 0), 0);
        Check.due("behind four", x.stop(0, 0, 1), 4);
        NearlyBought y = Check.laid("p0,0;p0,60;t30;t31;a0,0,12,0;e0;g0;");
        Check.due("13 take the claim", y.stop(1, 0, 0), 13);
        y.pause(1, 1, 9);
        Check.due("29 are left for what is missed", y.stop(1, 0, 0), 13);
        NearlyBought z = Check.laid("p0,65;p0,0;t30;t31;a1,0,12,0;a0,1,9,0;e0;g0;");
        Check.due("it goes to him, missed 3 times", z.stop(0, 0, 0), 0);
        Check.due("behind three", z.stop(0, 0, 1), 3);
    }

    /** A PAUSE of more BREATHS in a later YEAR has the later price. */
    private static void stopSpoils() {
        NearlyBought x = Check.laid("p0,30;p2,0;t30;a0,0,9,0;e0;g9;");
        Check.due("so without", x.stop(0, 0, 0), 0);
        NearlyBought y = Check.laid("p0,29;p0,0;t30;a0,0,10,0;a1,0,12,1;e0;g9;");
        Check.due("one coin is missing", y.stop(0, 0, 0), Check.NONE);
        y.give(0, 1, 1);
        Check.due("NONE for how many fairs, too", y.stop(0, 0, 1), Check.NONE);
    }

    private static void rank() {
        NearlyBought x = Check.laid("p0,0;p3,0;t10;t30;t20;t30;t9;t60;"
            + "a0,0,9,0;a0,1,9,0;a0,2,9,0;a0,3,9,0;a0,4,9,5;a0,5,8,0;a1,0,5,0;a1,4,5,9;a1,2,4,0;g9;");
        int[] ranked = {1, 3, 2, 0, Check.NONE};
        for (int k = 0; k < ranked.length; k++) {
            Check.due("rank(0, " + k + ")", x.rank(0, k), ranked[k]);
        }
        Check.due("rank(1, 0)", x.rank(1, 0), 0);
        Check.due("rank(1, 1)", x.rank(1, 1), Check.NONE);
        Check.fairs(x, 5);
        Check.due("9 and 5 x 9 are the dearest then", x.rank(0, 0), 4);
        Check.due("rank(0, 4)", x.rank(0, 4), 0);
        Check.due("rank(0, 5)", x.rank(0, 5), Check.NONE);
        Check.fairs(x, 4);
        Check.due("the child's halves", x.rank(1, 0), 4);
        Check.due("the child's halves", x.rank(1, 1), 0);
        NearlyBought y = Check.laid("p3,0;t21;t20;a0,0,5,0;a0,1,5,0;");
        Check.due("halves alike, the lowest", y.rank(0, 0), 0);
        Check.due("halves alike, the other", y.rank(0, 1), 1);
    }

    private static void wanted() {
        NearlyBought x = Check.laid("p0,0;p1,0;p2,0;t9;t9;t9;a0,1,9,0;a0,2,9,0;a1,2,10,0;a2,0,2,0;");
        Check.due("of several the lowest", x.wanted(0), 1);
        Check.due("one", x.wanted(1), 1);
        x.pause(1, 2, 11);
        Check.due("two", x.wanted(0), 2);
        Check.due("two", x.wanted(1), 2);
        x.pause(0, 1, 30);
        x.pause(2, 1, 3);
        Check.due("thing 1 now", x.wanted(0), 1);
        Check.due("by two", x.wanted(1), 2);
        x.pause(0, 0, 9);
        x.pause(1, 0, 11);
        x.pause(2, 0, 3);
        Check.due("thing 0 now", x.wanted(0), 0);
        Check.due("by three", x.wanted(1), 3);
        NearlyBought y = Check.laid("p0,0;t9;t9;a0,1,8,0;a0,1,9,1;");
        Check.due("nobody", y.wanted(0), 0);
        Check.due("nobody", y.wanted(1), 0);
        y.fair();
        Check.due("in year 1", y.wanted(0), 1);
        NearlyBought z = Check.laid("p0,99;p0,0;t9;t9;a0,1,9,0;");
        z.fair();
        Check.due("whosever it is", z.wanted(0), 1);
    }

    private static void askingChangesNothing() {
        NearlyBought x = Check.laid(THREE);
        x.fair();
        for (int k = 0; k < 3; k++) {
            Check.due("goes(0)", x.goes(0), 2);
            Check.due("never()", x.never(), 4);
            Check.due("stop(0, 0, 0)", x.stop(0, 0, 0), Check.NONE);
            Check.due("behind(0, 9)", x.behind(0, 9), 1);
            Check.due("greens(0, 9, 0)", x.greens(0, 9, 0), x.greens(0, 9, 0));
            Check.due("year", x.count(2), 1);
            Check.due("coins", x.count(4), 58);
            Check.due("missed", x.thing(0, 2), 1);
            Check.due("breaths", x.nearly(0, 0, 0), 9);
        }
    }

    private static void wrong() {
        NearlyBought x = Check.laid(THREE);
        for (int w : WRONG) {
            Check.due("behind(" + w + ", 0)", x.behind(w, 0), Check.BAD);
            Check.due("goes(" + w + ")", x.goes(w), Check.BAD);
            Check.due("stop(" + w + ", 0, 0)", x.stop(w, 0, 0), Check.BAD);
            Check.due("stop(0, " + w + ", 0)", x.stop(0, w, 0), Check.BAD);
            Check.due("stop(0, 0, " + w + ")", x.stop(0, 0, w), Check.BAD);
            Check.due("rank(" + w + ", 0)", x.rank(w, 0), Check.BAD);
            Check.due("wanted(" + w + ")", x.wanted(w), Check.BAD);
        }
        Check.due("behind(3, 0)", x.behind(3, 0), Check.BAD);
        Check.due("goes(3)", x.goes(3), Check.BAD);
        Check.due("stop(2, 0, 0)", x.stop(2, 0, 0), Check.BAD);
        Check.due("stop(0, 3, 0)", x.stop(0, 3, 0), Check.BAD);
        Check.due("stop(0, 0, 2)", x.stop(0, 0, 2), Check.BAD);
        Check.due("rank(2, 0)", x.rank(2, 0), Check.BAD);
        Check.due("rank(0, -1)", x.rank(0, -1), Check.BAD);
        Check.due("rank(0, 6)", x.rank(0, 6), Check.NONE);
        Check.due("rank(0, most)", x.rank(0, Integer.MAX_VALUE), Check.NONE);
        Check.due("wanted(2)", x.wanted(2), Check.BAD);
        int[] fairs = {-1, 10, Integer.MAX_VALUE, Integer.MIN_VALUE};
        for (int n : fairs) {
            Check.due("behind(0, " + n + ")", x.behind(0, n), Check.BAD);
        }
    }
}
