/** Promises 9 to 12: pause, fair, give, undo. */
public final class ActsTest {
    private static final int[] WRONG = {-1, 4, 6, Integer.MAX_VALUE, Integer.MIN_VALUE};

    public static void main(String[] args) {
        pause();
        fairInOrder();
        fairMissed();
        fairMissedAnew();
        fairToTheLowest();
        fairOthersMustHaveDearer();
        fairDearestIsWhoseverItIs();
        fairDearestOfAnyThing();
        fairOfSix();
        fairEarns();
        fairLastYear();
        give();
        giveRefused();
        undo();
        undoEight();
        refusedIsNotUndone();
        Check.end();
    }

    private static void pause() {
        NearlyBought x = new NearlyBought();
        Check.due("plain", x.pause(0, 2, 30), 30);
        Check.due("masked", x.pause(1, 2, 30), 28);
        Check.due("masked, but the earlier one stands", x.pause(1, 2, 29), 28);
        Check.due("masked, 1", x.pause(1, 1, 1), 0);
        Check.due("masked, 2", x.pause(1, 1, 2), 0);
        Check.due("masked, 3", x.pause(1, 1, 3), 1);
        Check.due("thief", x.pause(2, 3, 30), 90);
        Check.due("child", x.pause(3, 2, 1), 2);
        Check.due("the told one stands", x.pause(3, 3, 1), 10);
        x.fair();
        Check.due("before what is somebody's, too", x.pause(0, 3, 11), 11);
        Check.due("made in this year", x.nearly(0, 3, 2), 1);
        int undone = x.count(6);
        for (int w : WRONG) {
            Check.due("pause(" + w + ", 0, 1)", x.pause(w, 0, 1), Check.BAD);
            Check.due("pause(0, " + w + ", 1)", x.pause(0, w, 1), Check.BAD);
        }
        int[] breaths = {0, 31, -1, Integer.MAX_VALUE, Integer.MIN_VALUE};
        for (int b : breaths) {
            Check.due("pause(0, 0, " + b + ")", x.pause(0, 0, b), Check.BAD);
        }
        Check.due("nothing changed", x.count(6), undone);
    }

    private static void fairInOrder() {
        NearlyBought x = Check.laid("p0,15;t10;t5;t9;a0,1,9,0;a0,0,9,0;a0,2,9,0;e0;g0;");
        Check.due("0 first, as long as coins last", x.fair(), 2);
        Check.due("thing 0", x.thing(0, 1), 0);
        Check.due("thing 1", x.thing(1, 1), 0);
        Check.due("thing 2", x.thing(2, 1), Check.NONE);
        Check.due("thing 2 is missed", x.thing(2, 2), 1);
        Check.due("paid", x.person(0, 1), 0);
        NearlyBought y = Check.laid("p0,10;p0,99;t10;t5;a0,0,9,0;a1,0,8,0;");
        Check.due("all his coins are enough", y.fair(), 1);
        Check.due("nobody's is not missed", y.thing(1, 2), 0);
        Check.due("earned behind the fair", y.person(0, 1), 5);
        Check.due("the year is one more", y.count(2), 1);
    }

    private static void fairMissed() {
        NearlyBought x = Check.laid("p0,0;p0,40;p0,60;t40;t41;t50;a0,0,9,0;a1,1,9,3;a2,2,10,5;e0;g0;");
        for (int missed = 1; missed <= 2; missed++) {
            Check.due("missed", x.fair(), 0);
            Check.due("missed", x.thing(0, 2), missed);
        }
        Check.due("nobody has a dearer one yet", x.fair(), 0);
        Check.due("missed 3 times", x.thing(0, 2), 3);
        Check.due("person 1 has 41 now, but not ahead of year 3", x.fair(), 1);
        Check.due("it goes to person 1", x.thing(0, 1), 1);
        Check.due("for that price", x.person(1, 1), 0);
        Check.due("3 stay", x.thing(0, 2), 3);

        NearlyBought y = Check.laid("p0,0;p0,99;t40;t41;a0,0,9,0;a1,1,9,9;e0;g0;");
        y.pause(1, 1, 9);
        Check.due("his own claim", y.fair(), 1);
        Check.due("missed once", y.thing(0, 2), 1);
        y.fair();
        Check.due("gone at the third at once", y.fair(), 1);
        Check.due("to person 1, whosever his dearest is", y.thing(0, 1), 1);
        Check.due("99 less 41 and 40", y.person(1, 1), 18);
    }

    /** MISSED 3 times, it still is first of all its CLAIM's, if that one has the COINS. */
    private static void fairMissedAnew() {
        NearlyBought x = Check.laid("p0,0;p0,99;t40;t60;a0,0,9,0;e0;g0;");
        Check.fairs(x, 4);
        Check.due("missed 3 times at most", x.thing(0, 2), 3);
        x.give(1, 0, 45);
        x.pause(1, 1, 9);
        Check.due("fair()", x.fair(), 1);
        Check.due("it is its claim's", x.thing(0, 1), 0);
        Check.due("the other has too few", x.thing(1, 1), Check.NONE);
        NearlyBought y = Check.laid("p0,0;p0,39;p0,99;t40;t60;t60;a0,0,9,0;a1,1,9,0;e0;g0;");
        Check.fairs(y, 5);
        Check.due("39 are too few", y.thing(0, 1), Check.NONE);
        y.give(2, 1, 1);
        Check.due("fair()", y.fair(), 1);
        Check.due("40 are enough", y.thing(0, 1), 1);
    }

    private static void fairToTheLowest() {
        NearlyBought x = Check.laid("p0,0;p0,50;p0,50;p0,45;t40;t55;t55;a0,0,9,0;a1,1,9,0;a2,2,9,0;e0;g0;");
        Check.fairs(x, 3);
        Check.due("of several the lowest", x.thing(0, 1), 1);
        NearlyBought y = Check.laid("p0,0;p0,50;p0,50;p0,45;t40;t55;t56;a0,0,9,0;a1,1,9,0;a2,2,9,0;e0;g0;");
        Check.fairs(y, 3);
        Check.due("whose dearest is greatest", y.thing(0, 1), 2);
        Check.due("thing 2 is missed 3 times, too", y.thing(2, 2), 3);
    }

    private static void fairOthersMustHaveDearer() {
        NearlyBought x = Check.laid("p0,0;p0,50;p3,50;t40;t40;t60;a0,0,9,0;a1,1,9,0;a2,2,5,0;e0;g0;");
        Check.due("two are had at once", x.fair(), 2);
        Check.fairs(x, 5);
        Check.due("a dearest of 40 is not more than 40, of 30 neither", x.thing(0, 1), Check.NONE);
        NearlyBought y = Check.laid("p3,10;p0,20;t40;t21;a0,0,5,0;a1,1,9,0;e0;g0;");
        Check.fairs(y, 3);
        Check.due("for the child's price", y.thing(0, 1), 1);
        Check.due("20 are paid", y.person(1, 1), 0);
    }

    private static void fairDearestIsWhoseverItIs() {
        NearlyBought x = Check.laid("p0,0;p0,99;p0,60;t40;t50;a0,0,9,0;a1,1,9,0;a2,1,8,0;e0;g0;");
        Check.fairs(x, 3);
        Check.due("his own counts", x.thing(0, 1), 1);
        NearlyBought y = Check.laid("p0,0;p0,50;p0,60;t40;t50;a0,0,9,0;a1,1,10,0;a2,1,9,0;e0;g0;");
        Check.fairs(y, 3);
        Check.due("another's counts", y.thing(0, 1), 2);
        Check.due("the rest", y.person(2, 1), 20);
    }

    private static void fairDearestOfAnyThing() {
        for (int dear = 0; dear < 6; dear++) {
            StringBuilder text = new StringBuilder("p0,0;p0,45;");
            int missed = dear == 0 ? 5 : 0;
            for (int t = 0; t < 6; t++) {
                text.append(t == dear ? "t50;" : "t40;");
            }
            text.append("a0,").append(missed).append(",9,0;a1,").append(dear).append(",9,0;e0;g0;");
            NearlyBought x = Check.laid(text.toString());
            Check.fairs(x, 3);
            Check.due("dearest is thing " + dear, x.thing(missed, 1), 1);
            Check.due("its own price is not paid", x.person(1, 1), 5);
        }
    }

    /** As many PERSONS, THINGS and PAUSES as can be told. */
    private static void fairOfSix() {
        NearlyBought x = Check.laid("p0,10;p0,10;p0,10;p0,10;p0,10;p0,60;t10;t10;t10;t10;t10;t20;"
            + "a0,5,9,0;a1,4,9,0;a2,3,9,0;a3,2,9,0;a4,1,9,0;a5,0,9,0;a5,5,8,0;a4,0,8,0;a0,1,8,0;e0;g0;");
        Check.due("seen(5, 5, 9)", x.seen(5, 5, 9), 1);
        Check.due("never()", x.never(), 32);
        Check.due("goes(5)", x.goes(5), Check.NONE);
        Check.due("stop(5, 5, 0)", x.stop(5, 5, 0), 10);
        Check.due("stop(5, 5, 1)", x.stop(5, 5, 1), 1);
        Check.due("feigned(0)", x.feigned(0), 0);
        Check.due("wanted(1)", x.wanted(1), 1);
        Check.due("cheapest(5, 0)", x.cheapest(5, 0), 0);
        Check.due("rank(5, 0)", x.rank(5, 0), 0);
        Check.due("five", x.fair(), 5);
        for (int t = 0; t < 5; t++) {
            Check.due("whose", x.thing(t, 1), 5 - t);
        }
        Check.due("missed", x.thing(5, 2), 1);
        Check.due("pause(5, 5, 30)", x.pause(5, 5, 30), 30);
        Check.due("the last", x.fair(), 1);
        Check.due("person(5, 2)", x.person(5, 2), 2);
        Check.due("person(5, 3)", x.person(5, 3), 30 + 30);
        Check.due("count(3)", x.count(3), 6);
        Check.due("count(4)", x.count(4), 40);
        Check.due("greens(9999, 9, 0)", x.greens(9999, 9, 0), 6);
        Check.due("greens(9999, 9, 1)", x.greens(9999, 9, 1), 40);
    }

    private static void fairEarns() {
        NearlyBought x = Check.laid("p0,99;p0,1;t1;e30;");
        Check.fairs(x, 30);
        Check.due("999", x.person(0, 1), 999);
        Check.due("901", x.person(1, 1), 901);
        Check.fairs(x, 5);
        Check.due("999 at most", x.person(1, 1), 999);
        NearlyBought y = Check.laid("p0,99;t1;e0;");
        y.fair();
        Check.due("nothing is earned", y.person(0, 1), 99);
    }

    private static void fairLastYear() {
        NearlyBought x = Check.laid("p0,0;t60;g9;");
        for (int year = 1; year <= 99; year++) {
            Check.due("fair()", x.fair(), 0);
            Check.due("year", x.count(2), year);
        }
        Check.due("no fair in year 99", x.fair(), Check.NO);
        Check.due("year 99", x.count(2), 99);
        Check.due("cost in year 99", x.thing(0, 0), 951);
        Check.due("what could be undone", x.undo(), 7);
        Check.due("fair() in year 98", x.fair(), 0);
    }

    private static void give() {
        NearlyBought x = new NearlyBought();
        Check.due("all", x.give(1, 0, 8), 0);
        Check.due("had", x.person(0, 1), 28);
        Check.due("given", x.person(1, 1), 0);
        Check.due("of all as many", x.count(4), 67);
        NearlyBought y = Check.laid("p0,99;p0,99;t1;e30;");
        Check.due("99", y.give(0, 1, 99), 0);
        Check.fairs(y, 26);
        Check.due("198 and 780", y.person(1, 1), 978);
        Check.due("999 may be", y.give(0, 1, 21), 759);
        Check.due("1000 may not", y.give(0, 1, 1), Check.FULL);
        Check.due("nothing changed", y.person(1, 1), 999);
        Check.due("back", y.give(1, 0, 99), 900);
    }

    private static void giveRefused() {
        NearlyBought x = Check.laid("p0,99;p0,99;t1;e30;");
        for (int w : WRONG) {
            Check.due("give(" + w + ", 0, 1)", x.give(w, 0, 1), Check.BAD);
            Check.due("give(0, " + w + ", 1)", x.give(0, w, 1), Check.BAD);
        }
        int[] coins = {0, -1, 100, Integer.MAX_VALUE, Integer.MIN_VALUE};
        for (int c : coins) {
            Check.due("give(0, 1, " + c + ")", x.give(0, 1, c), Check.BAD);
        }
        Check.due("alike", x.give(1, 1, 1), Check.BAD);
        x.give(0, 1, 50);
        Check.due("not so many", x.give(0, 1, 50), Check.NO);
        Check.due("just so many", x.give(0, 1, 49), 0);
        Check.due("alike ahead of not so many", x.give(0, 0, 99), Check.BAD);
        Check.fairs(x, 30);
        x.give(0, 1, 99);
        for (int k = 0; k < 8; k++) {
            x.give(0, 1, 99);
            x.give(1, 0, 1);
            x.give(0, 1, 1);
        }
        Check.due("full", x.person(1, 1), 999);
        Check.due("no more fits", x.give(0, 1, 99), Check.FULL);
        NearlyBought z = Check.laid("p0,0;p0,99;t1;a0,0,9,0;e0;");
        Check.due("NO ahead of FULL, as far as can be", z.give(0, 1, 99), Check.NO);
    }

    private static void undo() {
        NearlyBought x = new NearlyBought();
        x.pause(1, 0, 20);
        x.fair();
        x.give(2, 1, 5);
        Check.due("undo() of the gift", x.undo(), 2);
        Check.due("coins of 2", x.person(2, 1), 26);
        Check.due("coins of 1", x.person(1, 1), 13);
        Check.due("undo() of the fair", x.undo(), 1);
        Check.due("year", x.count(2), 0);
        Check.due("owner", x.thing(2, 1), Check.NONE);
        Check.due("missed", x.thing(0, 2), 0);
        Check.due("coins", x.person(2, 1), 35);
        Check.due("the told pause of year 1", x.nearly(0, 1, 0), 0);
        Check.due("the pause made", x.nearly(1, 0, 0), 20);
        Check.due("claim", x.thing(0, 3), 1);
        Check.due("undo() of the pause", x.undo(), 0);
        Check.due("the pause told", x.nearly(1, 0, 0), 9);
        Check.due("claim", x.thing(0, 3), 0);
        Check.due("nothing more", x.undo(), Check.NO);
        x.pause(0, 0, 1);
        Check.due("a pause by which nothing becomes another", x.undo(), 0);
        x.seen(0, 0, 5);
        x.write('p');
        x.fair();
        x.undo();
        Check.due("what is SEEN stays", x.count(5), 1);
        Check.due("THE TEXT stays", x.count(8), 1);
    }

    private static void undoEight() {
        NearlyBought x = new NearlyBought();
        Check.fairs(x, 20);
        Check.due("8 can be", x.count(6), 8);
        x.undo();
        x.undo();
        Check.fairs(x, 1);
        Check.due("7 can be", x.count(6), 7);
        for (int left = 6; left >= 0; left--) {
            Check.due("undo()", x.undo(), left);
            Check.due("year", x.count(2), 12 + left);
        }
        Check.due("no more", x.undo(), Check.NO);
        Check.due("year", x.count(2), 12);
    }

    private static void refusedIsNotUndone() {
        NearlyBought x = new NearlyBought();
        x.give(0, 1, 99);
        x.give(0, 0, 1);
        x.pause(0, 0, 0);
        x.pause(9, 0, 1);
        Check.due("nothing can be undone", x.undo(), Check.NO);
        x.goes(0);
        x.stop(1, 1, 0);
        x.greens(1, 9, 0);
        x.feigned(0);
        Check.due("what only asks is no act", x.count(6), 0);
    }
}
