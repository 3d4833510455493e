/** SEEN to KEPT (promises 19 to 27): each sentence that names an edge, on both sides of it. */
public final class SeenEdgesTest {
    public static void main(String[] args) {
        sixSeen();
        forgetAnyNumber();
        seenBehindOneAndNine();
        seenFromTheFirst();
        seenByAnother();
        feignedNothingSeen();
        feignedWhoNeverPaused();
        feignedByOneAlone();
        feignedNotAtAll();
        feignedAndWhatWouldBe();
        countsNoneAndFour();
        countsByKind();
        cheapestNobody();
        cheapestOfSeveral();
        greensFirstAndLastDraw();
        greensOneAndNineYears();
        greensPausesAreMade();
        greensPastTheLastYear();
        greensDearerPastTheLastYear();
        greensOfAllGone();
        twoKept();
        keptAtTheEnds();
        keptIsNoMore();
        nothingIsUndoneThen();
        countNothingThere();
        countAllFull();
        Check.end();
    }

    /** "SEEN (6 at most)". */
    private static void sixSeen() {
        NearlyBought x = Check.laid("p0,99;p0,99;t9;t9;a0,0,9,0;a1,1,9,0;");
        for (int k = 1; k <= 6; k++) {
            Check.due("seen()", x.seen(0, 0, k), k);
        }
        Check.due("so", x.feigned(1), 1);
        Check.due("a seventh that is not so", x.seen(1, 0, 9), Check.FULL);
        Check.due("6 stay", x.count(5), 6);
        Check.due("it is not SEEN", x.feigned(1), 1);
        Check.due("BAD is ahead of FULL", x.seen(2, 0, 9), Check.BAD);
        Check.due("BAD is ahead of FULL", x.seen(0, 2, 9), Check.BAD);
        Check.due("BAD is ahead of FULL", x.seen(0, 0, 10), Check.BAD);
        Check.due("BAD is ahead of FULL", x.seen(0, 0, 0), Check.BAD);
        NearlyBought y = Check.laid("p0,99;p0,99;t9;t9;a0,0,9,0;a1,1,9,0;");
        for (int k = 1; k <= 5; k++) {
            y.seen(0, 0, k);
        }
        y.seen(1, 0, 9);
        Check.due("the sixth counts", y.feigned(1), 0);
    }

    private static void forgetAnyNumber() {
        for (int n = 0; n <= 6; n++) {
            NearlyBought x = Check.laid("p0,99;t9;");
            for (int k = 0; k < n; k++) {
                x.seen(0, 0, 1);
            }
            Check.due("so", x.feigned(1), n == 0 ? 1 : 0);
            Check.due("forget() of " + n, x.forget(), n);
            Check.due("forget() again", x.forget(), 0);
            Check.due("so", x.feigned(1), 1);
            Check.due("the first again", x.seen(0, 0, 1), 1);
        }
    }

    /** "that a THING is somebody's behind n (1 to 9) FAIRS": from the FAIR on by which it goes. */
    private static void seenBehindOneAndNine() {
        for (int missing = 0; missing <= 9; missing++) {
            for (int n = 1; n <= 9; n++) {
                NearlyBought x = Check.laid("p0," + (20 - missing) + ";t20;a0,0,9,0;e1;g0;");
                Check.due("seen()", x.seen(0, 0, n), 1);
                Check.due("so behind " + n + ", " + missing + " missing", x.feigned(1), n > missing ? 1 : 0);
                Check.due("not without", x.feigned(0), 0);
            }
        }
    }

    /** "counted from the first, as it was LAID, nothing done": in the last YEAR, too. */
    private static void seenFromTheFirst() {
        NearlyBought x = Check.laid("p0,20;p0,99;t20;t60;a0,0,9,0;a1,1,9,8;e0;g0;");
        x.give(0, 1, 20);
        x.pause(1, 0, 30);
        Check.fairs(x, 99);
        Check.due("1's", x.thing(0, 1), 1);
        x.seen(0, 0, 1);
        Check.due("from the first it is 0's", x.feigned(1), 1);
        x.seen(1, 1, 9);
        Check.due("told for YEAR 8", x.feigned(1), 1);
        x.seen(1, 1, 8);
        Check.due("not ahead of it", x.feigned(1), 0);
        Check.due("YEAR 99 stays", x.count(2), 99);
        Check.due("SEEN stay", x.count(5), 3);
    }

    private static void seenByAnother() {
        NearlyBought x = Check.laid("p0,20;p0,99;t20;t60;a0,0,9,0;e0;g0;");
        x.seen(0, 1, 9);
        Check.due("it is 0's", x.feigned(1), 0);
        Check.due("not without, either", x.feigned(0), 0);
        x.forget();
        x.seen(1, 0, 9);
        Check.due("it is nobody's", x.feigned(1), 0);
        Check.due("not without, either", x.feigned(0), 0);
    }

    /** Of nothing SEEN all is so. */
    private static void feignedNothingSeen() {
        for (int persons = 1; persons <= 6; persons++) {
            NearlyBought x = Check.laid("p0,99;".repeat(persons) + "t9;a0,0,9,0;");
            Check.due("all of " + persons, x.feigned(0), (1 << persons) - 1);
            Check.due("so without", x.feigned(1), 1);
        }
    }

    private static void feignedWhoNeverPaused() {
        for (int i = 0; i < 6; i++) {
            NearlyBought x = Check.laid("p0,99;".repeat(6) + "t9;a" + i + ",0,9,0;");
            x.seen(0, i, 1);
            Check.due("so without", x.feigned(1), 1);
            Check.due("any but " + i, x.feigned(0), 63 - (1 << i));
            NearlyBought y = Check.laid("p0,99;".repeat(6) + "t9;a" + i + ",0,10,0;a" + (i + 1) % 6 + ",0,9,0;");
            y.seen(0, (i + 1) % 6, 1);
            Check.due("not without", y.feigned(1), 0);
            Check.due(i + " alone", y.feigned(0), 1 << i);
        }
    }

    /** "had one of them not PAUSED at all": one alone; that two had not is not asked. */
    private static void feignedByOneAlone() {
        NearlyBought x = Check.laid("p0,99;p0,99;p0,99;t9;a0,0,11,0;a1,0,10,0;a2,0,9,0;");
        x.seen(0, 2, 1);
        Check.due("without 0 it is 1's, without 1 it is 0's", x.feigned(0), 0);
        x.forget();
        x.seen(0, 1, 1);
        Check.due("without 0", x.feigned(0), 1);
        x.forget();
        x.seen(0, 0, 1);
        Check.due("without 1 or 2", x.feigned(0), 6);
    }

    /** "not PAUSED at all": by none of his told PAUSES, and his dearest is none. */
    private static void feignedNotAtAll() {
        NearlyBought x = Check.laid("p0,0;p0,40;p0,40;t30;t60;t59;a0,0,9,0;a1,1,9,0;a2,2,9,0;e0;g0;");
        x.seen(0, 2, 3);
        Check.due("it is 1's", x.feigned(1), 0);
        Check.due("without 1 it is 2's", x.feigned(0), 2);
        x.forget();
        x.seen(0, 1, 3);
        Check.due("it is 1's", x.feigned(1), 1);
        Check.due("without 0 it is nobody's", x.feigned(0), 4);
    }

    /** What would be and what would have been have no say in one another, in whatever order they are asked. */
    private static void feignedAndWhatWouldBe() {
        NearlyBought x = Check.laid("p0,0;p0,0;p0,99;t30;t60;t50;a0,0,9,0;a1,2,9,3;a2,1,9,4;e0;g0;");
        for (int n = 4; n <= 5; n++) {
            x.seen(0, 2, n);
            for (int k = 0; k < 2; k++) {
                Check.due("goes(0)", x.goes(0), 5);
                Check.due("so, behind " + n, x.feigned(1), n - 4);
                Check.due("never()", x.never(), 4);
                Check.due("without 1, behind " + n, x.feigned(0), n == 5 ? 2 : 0);
                Check.due("behind(0, 9)", x.behind(0, 9), 2);
                Check.due("stop(0, 0, 0)", x.stop(0, 0, 0), Check.NONE);
                x.feigned(0);
            }
            x.forget();
        }
        x.seen(0, 2, 9);
        Check.fairs(x, 3);
        x.pause(1, 2, 30);
        x.keep();
        x.feigned(0);
        x.undo();
        Check.due("told for YEAR 3", x.nearly(1, 2, 0), 9);
        x.back();
        Check.due("made in YEAR 3", x.nearly(1, 2, 0), 30);
        x.fair();
        Check.due("told for YEAR 4", x.nearly(2, 1, 0), 9);
    }

    /** "COUNTS for n (0 to 4) PAUSES .. in lowest terms": 0 is 0 by 1. */
    private static void countsNoneAndFour() {
        NearlyBought x = new NearlyBought();
        int[][] four = {{65, 81}, {671, 1296}, {1295, 1296}, {80, 81}};
        for (int i = 0; i < 4; i++) {
            Check.due("none, above", x.counts(i, 0, 0), 0);
            Check.due("none, below", x.counts(i, 0, 1), 1);
            Check.due("four, above", x.counts(i, 4, 0), four[i][0]);
            Check.due("four, below", x.counts(i, 4, 1), four[i][1]);
            Check.due("five", x.counts(i, 5, 0), Check.BAD);
            Check.due("fewer than none", x.counts(i, -1, 1), Check.BAD);
        }
    }

    /** 9 to 12, 11 and 12, 3 to 12, 5 to 12 of 1 to 12. */
    private static void countsByKind() {
        NearlyBought x = new NearlyBought();
        int[] hits = {4, 2, 10, 8};
        for (int i = 0; i < 4; i++) {
            int above = x.counts(i, 1, 0);
            int below = x.counts(i, 1, 1);
            Check.due("of " + i, above * 12, hits[i] * below);
            Check.due("in lowest terms", below, hits[i] == 10 || hits[i] == 2 ? 6 : 3);
        }
        Check.due("two of a PLAIN one", x.counts(0, 2, 0), 5);
        Check.due("two of a PLAIN one", x.counts(0, 2, 1), 9);
        NearlyBought y = Check.laid("p0,0;t9;a0,0,30,0;");
        Check.due("what is told has no say", y.counts(0, 1, 0), 1);
        Check.due("what is told has no say", y.counts(0, 1, 1), 3);
    }

    /** "NONE" of CHEAPEST: nobody NEARLY bought it; 8 are too few, 9 are enough. */
    private static void cheapestNobody() {
        NearlyBought x = Check.laid("p0,0;p3,0;t9;t1;a0,0,8,0;a1,1,4,0;");
        for (int t = 0; t < 2; t++) {
            for (int what = 0; what < 2; what++) {
                Check.due("nobody", x.cheapest(t, what), Check.NONE);
                Check.due("BAD is ahead of NONE", x.cheapest(t, what * 3 - 1), Check.BAD);
            }
        }
        x.pause(0, 0, 9);
        x.pause(1, 1, 5);
        Check.due("0", x.cheapest(0, 0), 0);
        Check.due("9", x.cheapest(0, 1), 9);
        Check.due("the child", x.cheapest(1, 0), 1);
        Check.due("for nothing", x.cheapest(1, 1), 0);
    }

    private static void cheapestOfSeveral() {
        NearlyBought x = Check.laid("p0,0;p0,0;p3,0;t9;a1,0,9,0;a0,0,9,1;e0;g1;");
        Check.due("1 alone", x.cheapest(0, 0), 1);
        x.fair();
        Check.due("9 of 1, 10 of 0", x.cheapest(0, 0), 1);
        Check.due("9", x.cheapest(0, 1), 9);
        Check.fairs(x, 9);
        x.pause(2, 0, 5);
        Check.due("half of 19 is as much: the lowest", x.cheapest(0, 0), 1);
        NearlyBought y = Check.laid("p0,0;p0,0;p3,0;t9;a1,0,9,0;a0,0,9,0;e0;g1;");
        Check.due("alike: the lowest", y.cheapest(0, 0), 0);
        Check.fairs(y, 8);
        y.pause(2, 0, 5);
        Check.due("half of 17 is one less", y.cheapest(0, 0), 2);
        Check.due("8", y.cheapest(0, 1), 8);
    }

    /** DRAW as the words tell it, by whole numbers that are large enough. */
    private static int draw(int z, int ahead) {
        long x = 7919L * z + 6151L * ahead + 1;
        long rest = x * x - 65521L * (x * x / 65521L);
        return (int) ((rest - rest % 4) / 4);
    }

    private static void sameAsByHand(NearlyBought x, NearlyBought twin, int z, int n) {
        int gone = x.greens(z, n, 0);
        int coins = x.greens(z, n, 1);
        for (int ahead = 0; ahead < n; ahead++) {
            int d = draw(z, ahead);
            twin.pause(d % twin.count(0), d / 8 % twin.count(1), 1 + d / 64 % 12);
            twin.fair();
        }
        Check.due("greens(" + z + ", " + n + ", 0)", gone, twin.count(3));
        Check.due("greens(" + z + ", " + n + ", 1)", coins, twin.count(4));
    }

    /** "GREENS by z (0 to 9999)". */
    private static void greensFirstAndLastDraw() {
        String text = "p2,90;p0,9;p3,5;p2,70;p2,0;t2;t3;t4;t5;t6;t60;e9;g1;";
        int[] keys = {0, 1, 2, 4999, 5000, 9998, 9999};
        for (int z : keys) {
            sameAsByHand(Check.laid(text), Check.laid(text), z, 9);
            sameAsByHand(Check.laid(text), Check.laid(text), z, 1);
        }
        NearlyBought x = Check.laid(text);
        Check.due("-1", x.greens(-1, 9, 0), Check.BAD);
        Check.due("10000", x.greens(10000, 9, 0), Check.BAD);
    }

    /** "of n (1 to 9) YEARS". */
    private static void greensOneAndNineYears() {
        NearlyBought x = Check.laid("p0,0;t60;e1;");
        for (int n = 1; n <= 9; n++) {
            Check.due("earned in " + n, x.greens(0, n, 1), n);
        }
        Check.due("no YEAR", x.greens(0, 0, 1), Check.BAD);
        Check.due("10 YEARS", x.greens(0, 10, 1), Check.BAD);
        for (int persons = 1; persons <= 6; persons++) {
            for (int things = 1; things <= 6; things++) {
                String text = "p2,40;".repeat(persons) + "t5;".repeat(things);
                sameAsByHand(Check.laid(text), Check.laid(text), 77 * persons + things, 5);
            }
        }
    }

    /** "for 1 and (DRAW by 64, cut) modulo 12 BREATHS": 8 of a PLAIN one have it not, 9 have it. */
    private static void greensPausesAreMade() {
        int[] found = new int[13];
        for (int z = 0; z <= 9999 && found[8] + found[9] + found[12] < 6; z++) {
            int b = 1 + draw(z, 0) / 64 % 12;
            if (b < 8 || b > 9 && b < 12 || found[b] == 2) {
                continue;
            }
            found[b]++;
            NearlyBought x = Check.laid("p0,9;t9;e0;");
            Check.due(b + " BREATHS", x.greens(z, 1, 0), b >= 9 ? 1 : 0);
            Check.due(b + " BREATHS, COINS", x.greens(z, 1, 1), b >= 9 ? 0 : 9);
            Check.due("none is made", x.nearly(0, 0, 0), 0);
        }
        Check.due("all were tried", found[8] + found[9] + found[12], 6);
    }

    /** Where nothing is earned and nothing gets dearer, YEAR 99 is as YEAR 0 is. */
    private static void greensPastTheLastYear() {
        String text = "p2,70;p2,50;p3,9;t60;t11;t10;e0;g0;";
        NearlyBought first = Check.laid(text);
        NearlyBought last = Check.laid(text);
        Check.fairs(last, 99);
        for (int n = 1; n <= 9; n++) {
            for (int what = 0; what <= 1; what++) {
                Check.due("greens(4, " + n + ", " + what + ")", last.greens(4, n, what), first.greens(4, n, what));
            }
        }
        NearlyBought y = Check.laid("p0,0;t60;e1;g9;");
        Check.fairs(y, 99);
        Check.due("too dear", y.greens(9, 9, 0), 0);
        Check.due("9 are earned", y.greens(9, 9, 1), 108);
    }

    /** From YEAR 99 on it costs 60 and 9 a YEAR, 996 in YEAR 104 and 1005 in YEAR 105; nobody has more than 999. */
    private static void greensDearerPastTheLastYear() {
        int asked = 0;
        for (int z = 0; z <= 9999; z++) {
            int ahead = 0;
            while (ahead < 9 && draw(z, ahead) / 64 % 12 < 8) {
                ahead++;
            }
            // Now and then one of either, for the first PAUSE of 9 BREATHS or more.
            if (ahead == 5 && asked % 2 == 0 || ahead == 6 && asked % 2 == 1) {
                NearlyBought x = Check.laid("p0,99;t60;e30;g9;");
                Check.fairs(x, 99);
                Check.due("greens(" + z + ", 9, 0)", x.greens(z, 9, 0), ahead == 5 ? 1 : 0);
                Check.due("greens(" + z + ", 9, 1)", x.greens(z, 9, 1), ahead == 5 ? 3 + 4 * 30 : 999);
                asked++;
            }
        }
        Check.holds("some were asked", asked > 3);
    }

    private static void greensOfAllGone() {
        NearlyBought x = Check.laid("p0,99;t9;t9;a0,0,9,0;a0,1,9,0;e0;");
        x.fair();
        Check.due("all are gone already", x.greens(0, 1, 0), 2);
        Check.due("nothing more is paid", x.greens(9999, 9, 1), 81);
    }

    /** "KEPT .. 2 at most". */
    private static void twoKept() {
        NearlyBought x = Check.laid("p0,0;t60;");
        Check.due("back() of none", x.back(), Check.NO);
        Check.due("the first", x.keep(), 1);
        x.fair();
        Check.due("the second", x.keep(), 2);
        x.fair();
        Check.due("the third", x.keep(), Check.FULL);
        Check.due("the third again", x.keep(), Check.FULL);
        Check.due("2 are KEPT", x.count(7), 2);
        Check.due("YEAR 2 stays", x.count(2), 2);
        Check.due("back()", x.back(), 1);
        Check.due("YEAR 1: the third was not KEPT", x.count(2), 1);
        Check.due("back()", x.back(), 0);
        Check.due("YEAR 0", x.count(2), 0);
        Check.due("back() of none", x.back(), Check.NO);
        Check.due("YEAR 0 stays", x.count(2), 0);
    }

    private static void keptAtTheEnds() {
        NearlyBought x = Check.laid("p0,99;t9;a0,0,9,0;");
        int[] first = Check.stand(x);
        x.keep();
        Check.fairs(x, 99);
        int[] last = Check.stand(x);
        x.keep();
        Check.due("back() to YEAR 99", x.back(), 1);
        last[6] = 0;
        last[7] = 1;
        Check.same("YEAR 99", Check.stand(x), last);
        Check.due("no FAIR", x.fair(), Check.NO);
        Check.due("back() to YEAR 0", x.back(), 0);
        Check.same("YEAR 0", Check.stand(x), first);
        Check.due("a FAIR", x.fair(), 1);
    }

    /** "(it is KEPT no more then)". */
    private static void keptIsNoMore() {
        NearlyBought x = Check.laid("p0,0;t60;");
        x.keep();
        x.fair();
        Check.due("back()", x.back(), 0);
        x.fair();
        x.fair();
        Check.due("it is KEPT no more", x.back(), Check.NO);
        Check.due("YEAR 2 stays", x.count(2), 2);
        Check.due("there is room for two", x.keep(), 1);
        Check.due("there is room for two", x.keep(), 2);
        x.fair();
        x.undo();
        Check.due("KEPT is not UNDONE", x.count(7), 2);
        x.undo();
        Check.due("back()", x.back(), 1);
        Check.due("YEAR 2", x.count(2), 2);
    }

    /** "nothing is UNDONE then": whether much or nothing could be. */
    private static void nothingIsUndoneThen() {
        for (int acts = 0; acts <= 9; acts++) {
            NearlyBought x = Check.laid("p0,0;t60;");
            Check.fairs(x, acts);
            x.keep();
            Check.due("keep() leaves it", x.count(6), Math.min(acts, 8));
            Check.due("back()", x.back(), 0);
            Check.due("nothing can be", x.count(6), 0);
            Check.due("undo()", x.undo(), Check.NO);
            Check.due("YEAR", x.count(2), acts);
        }
        NearlyBought y = Check.laid("p0,0;t60;");
        y.fair();
        Check.due("back() of none", y.back(), Check.NO);
        Check.due("what can be UNDONE stays", y.count(6), 1);
        Check.due("undo()", y.undo(), 0);
    }

    private static void countNothingThere() {
        NearlyBought x = Check.laid("p0,0;t60;");
        x.wipe();
        int[] least = {1, 1, 0, 0, 0, 0, 0, 0, 0};
        for (int what = 0; what <= 8; what++) {
            Check.due("count(" + what + ")", x.count(what), least[what]);
        }
        Check.due("count(9)", x.count(9), Check.BAD);
        Check.due("count(-1)", x.count(-1), Check.BAD);
    }

    private static void countAllFull() {
        NearlyBought x = Check.laid("p0,99;".repeat(6) + "t1;".repeat(6) + "e30;");
        for (int t = 0; t < 6; t++) {
            x.pause(t, t, 9);
        }
        Check.fairs(x, 99);
        for (int k = 0; k < 6; k++) {
            x.seen(0, 0, 1);
        }
        x.keep();
        x.keep();
        for (int letter = 6 * 9 + 4; letter < 200; letter++) {
            x.write('e');
        }
        int[] most = {6, 6, 99, 6, 5994, 6, 8, 2, 200};
        for (int what = 0; what <= 8; what++) {
            Check.due("count(" + what + ")", x.count(what), most[what]);
        }
        Check.due("write()", x.write('e'), Check.FULL);
        Check.due("seen()", x.seen(0, 0, 1), Check.FULL);
        Check.due("keep()", x.keep(), Check.FULL);
        Check.due("give()", x.give(0, 1, 1), Check.FULL);
        Check.due("fair()", x.fair(), Check.NO);
        for (int what = 0; what <= 8; what++) {
            Check.due("refused: count(" + what + ")", x.count(what), most[what]);
        }
    }
}
