/** BEHIND to WANTED (promises 13 to 18): each sentence that names an edge, on both sides of it. */
public final class WouldBeEdgesTest {
    public static void main(String[] args) {
        behindNone();
        behindNineNotTen();
        whoseItIsInBetween();
        pastTheLastYear();
        earnedPastTheLastYear();
        neverOfEach();
        neverByTheNinth();
        stopIsSoWithout();
        stopByTheFewest();
        stopOfThirty();
        stopBehindNine();
        stopIsMadeNow();
        stopByWhatIsMissed();
        stopOfWhatIsAnothers();
        stopOfOneWhoCanNever();
        rankOfSix();
        rankOfAlike();
        rankOfNone();
        rankWhosever();
        wantedNobody();
        wantedOfSeveral();
        wantedOfSix();
        whatWouldBeLeavesAll();
        Check.end();
    }

    /** "BEHIND n (0 to 9) FAIRS": behind 0 it is as it is now. "GOES: behind how many FAIRS (0 to 9)". */
    private static void behindNone() {
        NearlyBought x = Check.laid("p0,99;t9;t8;a0,0,9,0;");
        Check.due("behind(0, 0)", x.behind(0, 0), Check.NONE);
        Check.due("behind(0, 1)", x.behind(0, 1), 0);
        Check.due("goes(0)", x.goes(0), 1);
        Check.due("never", x.never(), 2);
        x.fair();
        Check.due("behind(0, 0) when it is his", x.behind(0, 0), 0);
        Check.due("behind(0, 9) when it is his", x.behind(0, 9), 0);
        Check.due("goes(0) when it is his", x.goes(0), 0);
        Check.due("behind(1, 0)", x.behind(1, 0), Check.NONE);
        Check.due("behind(1, 9)", x.behind(1, 9), Check.NONE);
        Check.due("goes(1)", x.goes(1), Check.NONE);
        Check.due("behind(0, 10)", x.behind(0, 10), Check.BAD);
        Check.due("behind(0, -1)", x.behind(0, -1), Check.BAD);
    }

    /** One COIN a YEAR: it is his behind as many FAIRS as COINS are missing, and one. */
    private static void behindNineNotTen() {
        for (int missing = 0; missing <= 11; missing++) {
            NearlyBought x = Check.laid("p0," + (20 - missing) + ";t20;a0,0,9,0;e1;g0;");
            int fairs = missing + 1;
            Check.due("goes(0), " + missing + " missing", x.goes(0), fairs <= 9 ? fairs : Check.NONE);
            Check.due("never(), " + missing + " missing", x.never(), fairs <= 9 ? 0 : 1);
            for (int n = 0; n <= 9; n++) {
                Check.due("behind(0, " + n + "), " + missing + " missing", x.behind(0, n), n >= fairs ? 0 : Check.NONE);
            }
        }
    }

    /** A PAUSE told for a later YEAR comes in its YEAR, and what is somebody's stays. */
    private static void whoseItIsInBetween() {
        for (int year = 0; year <= 9; year++) {
            NearlyBought x = Check.laid("p0,99;p0,99;t20;a0,0,9," + year + ";a1,0,30,9;e0;g0;");
            Check.due("goes(0), told for " + year, x.goes(0), year <= 8 ? year + 1 : Check.NONE);
            Check.due("behind(0, 9), told for " + year, x.behind(0, 9), year <= 8 ? 0 : Check.NONE);
            x.fair();
            Check.due("behind 9 and 1, told for " + year, x.behind(0, 9), year <= 8 ? 0 : 1);
        }
    }

    /** "(past YEAR 99, too; so all that would be)". */
    private static void pastTheLastYear() {
        for (int year = 90; year <= 99; year++) {
            NearlyBought x = Check.laid("p0,20;p0,99;t20;t20;e0;g0;");
            Check.fairs(x, year);
            x.pause(0, 0, 9);
            Check.due("behind(0, 0) in YEAR " + year, x.behind(0, 0), Check.NONE);
            Check.due("behind(0, 1) in YEAR " + year, x.behind(0, 1), 0);
            Check.due("behind(0, 9) in YEAR " + year, x.behind(0, 9), 0);
            Check.due("goes(0) in YEAR " + year, x.goes(0), 1);
            Check.due("never() in YEAR " + year, x.never(), 2);
            Check.due("stop(1, 1, 0) in YEAR " + year, x.stop(1, 1, 0), 9);
            Check.due("stop(1, 1, 1) in YEAR " + year, x.stop(1, 1, 1), 1);
            Check.due("greens in YEAR " + year, x.greens(0, 1, 0), 1);
            Check.due("YEAR stays", x.count(2), year);
            Check.due("a FAIR itself", x.fair(), year == 99 ? Check.NO : 1);
        }
    }

    /** Earned is past YEAR 99, too; behind the ninth FAIR YEAR 108 begins. */
    private static void earnedPastTheLastYear() {
        for (int missing = 7; missing <= 10; missing++) {
            NearlyBought y = Check.laid("p0," + (60 - missing) + ";t60;e1;g1;");
            Check.fairs(y, 99);
            y.pause(0, 0, 9);
            Check.due("159 are asked", y.nearly(0, 0, 4), 159);
            Check.due("goes(0), " + missing + " missing", y.goes(0), missing <= 8 ? missing + 1 : Check.NONE);
            Check.due("behind(0, 9), " + missing + " missing", y.behind(0, 9), missing <= 8 ? 0 : Check.NONE);
            Check.due("never(), " + missing + " missing", y.never(), missing <= 8 ? 0 : 1);
        }
    }

    /** "NEVER: THINGS (bits)": none, each alone, all. */
    private static void neverOfEach() {
        for (int things = 1; things <= 6; things++) {
            NearlyBought x = Check.laid("p0,99;" + "t1;".repeat(things));
            int bits = (1 << things) - 1;
            Check.due("all of " + things, x.never(), bits);
            for (int t = 0; t < things; t++) {
                x.pause(0, t, 9);
                bits -= 1 << t;
                Check.due("but those up to " + t, x.never(), bits);
                x.undo();
                Check.due("all of " + things, x.never(), bits + (1 << t));
                x.pause(0, t, 9);
            }
            x.fair();
            Check.due("none of " + things, x.never(), 0);
        }
    }

    private static void neverByTheNinth() {
        NearlyBought x = Check.laid("p0,11;p0,10;t20;t20;a0,0,9,0;a1,1,9,0;e1;g0;");
        Check.due("the tenth", x.never(), 3);
        x.fair();
        Check.due("the ninth, and the tenth", x.never(), 2);
        x.fair();
        Check.due("both", x.never(), 0);
    }

    /** "(0: it is so without)": by his CLAIM, by what is MISSED, when it is his. */
    private static void stopIsSoWithout() {
        NearlyBought x = Check.laid("p0,30;p0,99;t30;t40;t60;a0,0,9,0;a0,1,12,0;a1,2,9,0;e0;g0;");
        int[][] due = {{0, 0, 0, 1}, {1, 1, 13, 1}, {1, 2, 0, 1}, {0, 2, Check.NONE, Check.NONE}};
        for (int[] d : due) {
            Check.due("stop(" + d[0] + ", " + d[1] + ", 0)", x.stop(d[0], d[1], 0), d[2]);
            Check.due("stop(" + d[0] + ", " + d[1] + ", 1)", x.stop(d[0], d[1], 1), d[3]);
        }
        x.give(0, 1, 30);
        Check.due("0 goes to 1, MISSED 3 times", x.stop(1, 0, 0), 0);
        Check.due("behind 3", x.stop(1, 0, 1), 3);
        Check.fairs(x, 3);
        Check.due("it is his", x.stop(1, 0, 0), 0);
        Check.due("behind none", x.stop(1, 0, 1), 0);
    }

    /** "the fewest BREATHS": as many as are COUNTED as 9, or as take the CLAIM. */
    private static void stopByTheFewest() {
        int[] enough = {9, 11, 3, 5};
        for (int i = 0; i < 4; i++) {
            NearlyBought x = Check.laid("p0,99;p1,99;p2,99;p3,99;t9;");
            int b = x.stop(i, 0, 0);
            Check.due("the fewest of " + i, b, enough[i]);
            x.pause(i, 0, b - 1);
            Check.due("one fewer is too few", x.behind(0, 9), Check.NONE);
            Check.due("as many still", x.stop(i, 0, 0), b);
            x.pause(i, 0, b);
            Check.due("as many are enough", x.behind(0, 9), i);
            Check.due("so without now", x.stop(i, 0, 0), 0);
        }
    }

    /** "(1 to 30)": 30 may be needed, 31 may not. */
    private static void stopOfThirty() {
        int[] others = {28, 29, 30};
        for (int b : others) {
            NearlyBought x = Check.laid("p0,99;p0,99;p0,99;t9;a1,0," + b + ",0;");
            Check.due("a lower one against " + b, x.stop(0, 0, 0), b);
            Check.due("a higher one against " + b, x.stop(2, 0, 0), b == 30 ? Check.NONE : b + 1);
            Check.due("behind how many", x.stop(2, 0, 1), b == 30 ? Check.NONE : 1);
            Check.due("the CLAIM's", x.stop(1, 0, 0), 0);
        }
        NearlyBought y = Check.laid("p1,99;p2,99;p3,99;t9;a2,0,14,0;");
        Check.due("masked, 28 against 28", y.stop(0, 0, 0), 30);
        y.pause(2, 0, 15);
        Check.due("masked, 28 against 30", y.stop(0, 0, 0), Check.NONE);
        Check.due("thief, 30 against 30", y.stop(1, 0, 0), 10);
        y.pause(1, 0, 30);
        Check.due("child, 60 against 90", y.stop(2, 0, 0), Check.NONE);
    }

    /** "by which it is his behind 9 FAIRS .. behind how many FAIRS then". */
    private static void stopBehindNine() {
        for (int missing = 0; missing <= 10; missing++) {
            NearlyBought x = Check.laid("p0," + (20 - missing) + ";t20;e1;g0;");
            Check.due("how many, " + missing + " missing", x.stop(0, 0, 0), missing <= 8 ? 9 : Check.NONE);
            Check.due("behind, " + missing + " missing", x.stop(0, 0, 1), missing <= 8 ? missing + 1 : Check.NONE);
            x.pause(0, 0, 9);
            Check.due("without, " + missing + " missing", x.stop(0, 0, 0), missing <= 8 ? 0 : Check.NONE);
            Check.due("behind, " + missing + " missing", x.stop(0, 0, 1), missing <= 8 ? missing + 1 : Check.NONE);
        }
    }

    /** "of a PAUSE of his before it now": at the PRICE of this YEAR. */
    private static void stopIsMadeNow() {
        for (int coins = 21; coins <= 22; coins++) {
            NearlyBought x = Check.laid("p0," + coins + ";t20;e0;g2;");
            x.fair();
            Check.due("22 are asked of " + coins, x.stop(0, 0, 0), coins == 22 ? 9 : Check.NONE);
        }
        // One that stands already is had at its own PRICE; of more BREATHS it is dearer.
        NearlyBought y = Check.laid("p0,19;p0,1;t20;a0,0,9,0;e0;g9;");
        Check.due("one COIN is missing", y.stop(0, 0, 0), Check.NONE);
        y.fair();
        y.give(1, 0, 1);
        Check.due("at 20, so without", y.stop(0, 0, 0), 0);
        Check.due("behind one", y.stop(0, 0, 1), 1);
        y.pause(0, 0, 10);
        Check.due("at 29", y.stop(0, 0, 0), Check.NONE);
    }

    /** By a PAUSE before the THING itself it may become his dearest: it has to be more than what is asked. */
    private static void stopByWhatIsMissed() {
        NearlyBought x = Check.laid("p0,0;p0,99;t30;a0,0,30,0;e0;g2;");
        Check.due("30 is not more than 30", x.stop(1, 0, 0), Check.NONE);
        x.fair();
        Check.due("32 is", x.stop(1, 0, 0), 9);
        Check.due("MISSED twice more", x.stop(1, 0, 1), 2);
        Check.fairs(x, 3);
        Check.due("MISSED 3 times already", x.stop(1, 0, 0), 9);
        Check.due("at once", x.stop(1, 0, 1), 1);
        x.pause(1, 0, 9);
        Check.due("it goes", x.fair(), 1);
        Check.due("for 30", x.person(1, 1), 69);
    }

    private static void stopOfWhatIsAnothers() {
        NearlyBought x = Check.laid("p0,99;p0,99;t20;a0,0,9,0;");
        Check.due("ahead of the FAIR", x.stop(1, 0, 0), 10);
        x.fair();
        for (int what = 0; what <= 1; what++) {
            Check.due("behind the FAIR", x.stop(1, 0, what), Check.NONE);
            Check.due("his own", x.stop(0, 0, what), 0);
        }
    }

    private static void stopOfOneWhoCanNever() {
        NearlyBought x = Check.laid("p3,0;p0,0;t1;e0;g0;");
        Check.due("a CHILD for nothing", x.stop(0, 0, 0), 5);
        Check.due("one COIN is missing", x.stop(1, 0, 0), Check.NONE);
        Check.due("one COIN is missing", x.stop(1, 0, 1), Check.NONE);
        Check.due("BAD is ahead of NONE", x.stop(1, 0, 2), Check.BAD);
        Check.due("BAD is ahead of NONE", x.stop(1, 0, -1), Check.BAD);
    }

    /** "by PRICE to him the dearest first ..: the k-th", "(0 first) NONE: there are not so many; BAD (k below 0, too)". */
    private static void rankOfSix() {
        NearlyBought x = Check.laid("p0,0;p2,0;t11;t60;t1;t33;t59;t12;"
            + "a0,0,9,0;a0,1,9,0;a0,2,9,0;a0,3,9,0;a0,4,9,0;a0,5,9,0;a1,2,3,0;e0;");
        int[] due = {1, 4, 3, 5, 0, 2, Check.NONE, Check.NONE};
        for (int k = 0; k < due.length; k++) {
            Check.due("rank(0, " + k + ")", x.rank(0, k), due[k]);
        }
        int[] behind = {8, 100, Integer.MAX_VALUE};
        for (int k : behind) {
            Check.due("rank(0, " + k + ")", x.rank(0, k), Check.NONE);
        }
        int[] below = {-1, -2, Integer.MIN_VALUE};
        for (int k : below) {
            Check.due("rank(0, " + k + ")", x.rank(0, k), Check.BAD);
        }
        Check.due("one alone", x.rank(1, 0), 2);
        Check.due("no second", x.rank(1, 1), Check.NONE);
        Check.due("BAD is ahead of NONE", x.rank(2, 99), Check.BAD);
    }

    /** "of several the lowest": of all alike, and of a CHILD'S halves. */
    private static void rankOfAlike() {
        String six = "a0,5,9,0;a0,4,9,0;a0,3,9,0;a0,2,9,0;a0,1,9,0;a0,0,9,0;";
        NearlyBought x = Check.laid("p0,0;t9;t9;t9;t9;t9;t9;" + six);
        NearlyBought y = Check.laid("p3,0;t8;t9;t8;t9;t10;t11;" + six);
        int[] halves = {4, 5, 0, 1, 2, 3};
        for (int k = 0; k < 6; k++) {
            Check.due("alike: rank(0, " + k + ")", x.rank(0, k), k);
            Check.due("halves: rank(0, " + k + ")", y.rank(0, k), halves[k]);
        }
        // Of as much by another YEAR: 9 and 2 in YEAR 1 is 11.
        NearlyBought z = Check.laid("p0,0;t9;t11;t10;a0,1,9,0;a0,2,9,0;a0,0,9,1;e0;");
        Check.due("11 is the dearest", z.rank(0, 0), 1);
        z.fair();
        Check.due("11 and 11, the lowest", z.rank(0, 0), 0);
        Check.due("11 and 11, the other", z.rank(0, 1), 1);
        Check.due("10", z.rank(0, 2), 2);
    }

    /** "NONE: there are not so many": none at all. */
    private static void rankOfNone() {
        NearlyBought x = Check.laid("p0,0;p3,0;t9;t1;a0,0,8,0;a1,0,4,0;a1,1,5,1;");
        Check.due("too few BREATHS", x.rank(0, 0), Check.NONE);
        Check.due("not in this YEAR", x.rank(1, 0), Check.NONE);
        x.fair();
        Check.due("for nothing, too", x.rank(1, 0), 1);
        Check.due("no second", x.rank(1, 1), Check.NONE);
    }

    private static void rankWhosever() {
        NearlyBought x = Check.laid("p0,99;p0,99;t9;t8;a0,0,9,0;a1,0,10,0;a0,1,9,0;");
        x.fair();
        Check.due("1's", x.thing(0, 1), 1);
        Check.due("what is another's is ranked", x.rank(0, 0), 0);
        Check.due("what is his is ranked", x.rank(0, 1), 1);
    }

    /** "(THING 0 and 0, if nobody did)". */
    private static void wantedNobody() {
        NearlyBought x = Check.laid("p0,0;p0,0;t9;t9;a0,1,8,0;a1,1,9,1;");
        Check.due("THING 0", x.wanted(0), 0);
        Check.due("0", x.wanted(1), 0);
        x.fair();
        Check.due("THING 1", x.wanted(0), 1);
        Check.due("1", x.wanted(1), 1);
    }

    private static void wantedOfSeveral() {
        NearlyBought x = Check.laid("p0,0;p0,0;p0,0;t9;t9;t9;a0,2,9,0;a1,1,9,0;");
        Check.due("of several the lowest", x.wanted(0), 1);
        Check.due("1", x.wanted(1), 1);
        x.pause(2, 0, 9);
        Check.due("of three the lowest", x.wanted(0), 0);
        x.pause(2, 0, 30);
        Check.due("one counts once", x.wanted(1), 1);
        x.pause(2, 2, 9);
        Check.due("most", x.wanted(0), 2);
        Check.due("2", x.wanted(1), 2);
        x.pause(0, 1, 8);
        Check.due("8 are too few", x.wanted(0), 2);
        x.pause(0, 1, 9);
        Check.due("of two the lowest", x.wanted(0), 1);
    }

    private static void wantedOfSix() {
        NearlyBought x = Check.laid("p0,99;p0,99;p0,99;p0,99;p0,99;p0,99;t9;t9;t9;t9;t9;t9;");
        for (int i = 0; i < 6; i++) {
            x.pause(i, 5, 9);
            Check.due("the last THING", x.wanted(0), 5);
            Check.due("by as many", x.wanted(1), i + 1);
        }
        x.fair();
        Check.due("whosever it is", x.wanted(1), 6);
    }

    private static void whatWouldBeLeavesAll() {
        NearlyBought x = Check.laid("p0,5;p3,40;t30;t20;a0,0,9,0;a1,1,5,1;a1,0,4,2;e3;g2;");
        x.pause(0, 1, 10);
        x.keep();
        x.fair();
        x.seen(0, 1, 9);
        int[] before = Check.stand(x);
        for (int n = 0; n <= 9; n++) {
            x.behind(0, n);
            x.greens(n, Math.max(1, n), 0);
        }
        for (int what = 0; what <= 1; what++) {
            x.stop(0, 0, what);
            x.stop(1, 1, what);
            x.wanted(what);
            x.cheapest(0, what);
            x.counts(1, 4, what);
            x.rank(0, what);
            x.feigned(what);
        }
        Check.same("asked only", Check.stand(x), before);
        Check.due("UNDONE", x.undo(), 1);
        Check.due("KEPT", x.back(), 0);
        Check.due("YEAR", x.count(2), 0);
    }
}
