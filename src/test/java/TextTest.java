/** Promises 1 to 5: a new object, write, wipe, fault, lay. */
public final class TextTest {
    public static void main(String[] args) {
        newObject();
        write();
        wipe();
        faultOfForm();
        faultOfNumbers();
        faultOfHowMany();
        lay();
        layBeginsAnew();
        layRefused();
        layLastEarnedAndDearerCount();
        layForgetsTheOneBefore();
        Check.end();
    }

    private static void newObject() {
        NearlyBought x = new NearlyBought();
        int[] counts = {4, 4, 0, 0, 67, 0, 0, 0, 0};
        for (int what = 0; what < counts.length; what++) {
            Check.due("new: count(" + what + ")", x.count(what), counts[what]);
        }
        int[] coins = {20, 8, 35, 4};
        int[] costs = {30, 6, 14, 9};
        for (int k = 0; k < 4; k++) {
            Check.due("new: kind " + k, x.person(k, 0), k);
            Check.due("new: coins " + k, x.person(k, 1), coins[k]);
            Check.due("new: cost " + k, x.thing(k, 0), costs[k]);
            Check.due("new: owner " + k, x.thing(k, 1), Check.NONE);
            Check.due("new: missed " + k, x.thing(k, 2), 0);
        }
        int[][] pauses = {{0, 0, 12}, {1, 0, 9}, {2, 2, 3}, {3, 3, 5}, {3, 1, 0}, {0, 1, 0}, {2, 1, 0}};
        for (int[] p : pauses) {
            Check.due("new: breaths " + p[0] + "," + p[1], x.nearly(p[0], p[1], 0), p[2]);
        }
        x.fair();
        Check.due("new: told for year 1, 0,1", x.nearly(0, 1, 0), 10);
        Check.due("new: told for year 0, 1,3", x.nearly(1, 3, 0), 9);
        Check.due("new: told for year 0, 1,3", x.nearly(1, 3, 2), 0);
        Check.due("new: told for year 1, 2,1", x.nearly(2, 1, 0), 2);
        Check.due("new: dearer each year", x.thing(0, 0), 32);
        Check.due("new: earned", x.person(1, 1), 13);
        Check.due("new: fault", x.fault(), Check.NONE);
        Check.due("new: lay", x.lay(), Check.NO);
        Check.due("new: undo", new NearlyBought().undo(), Check.NO);
        Check.due("new: back", new NearlyBought().back(), Check.NO);
    }

    private static void write() {
        NearlyBought x = new NearlyBought();
        Check.due("write(32)", x.write(32), 1);
        Check.due("write(126)", x.write(126), 2);
        int[] wrong = {31, 127, 0, -1, 256 + 'p', Integer.MIN_VALUE, Integer.MAX_VALUE};
        for (int letter : wrong) {
            Check.due("write(" + letter + ")", x.write(letter), Check.BAD);
        }
        Check.due("count(8)", x.count(8), 2);
        for (int length = 3; length <= 200; length++) {
            Check.due("write to " + length, x.write('x'), length);
        }
        Check.due("write of the 201st", x.write('x'), Check.FULL);
        Check.due("BAD is ahead of FULL", x.write(127), Check.BAD);
        Check.due("count(8)", x.count(8), 200);
        Check.due("wipe of 200", x.wipe(), 200);
        Check.due("write behind wipe", x.write('x'), 1);
    }

    private static void wipe() {
        NearlyBought x = Check.written("p0,1;t1;");
        Check.due("wipe()", x.wipe(), 8);
        Check.due("wipe() again", x.wipe(), 0);
        Check.due("nothing else is wiped", x.count(0), 4);
        Check.put(x, "t1;p0,1;");
        Check.due("lay() of what came behind", x.lay(), 1);
    }

    private static void fault(String text, int want) {
        NearlyBought x = Check.written(text);
        Check.due("fault() of " + text, x.fault(), want);
        Check.due("fault() leaves what is laid, " + text, x.count(4), 67);
        Check.due("fault() leaves the text, " + text, x.count(8), text.length());
    }

    private static void faultOfForm() {
        fault("", Check.NONE);
        fault("p0,20;", Check.NONE);
        fault("p00,05;t05;a00,00,09,00;e05;g02;", Check.NONE);
        fault("p0,020;", 0);
        fault("p0,20", 0);
        fault("p0,20;t5", 6);
        fault("p0,20;t", 6);
        fault("p0,20;;", 6);
        fault("p0;", 0);
        fault("p0,;", 0);
        fault("p,5;", 0);
        fault("p0,5,;", 0);
        fault("p0,5,5;", 0);
        fault("p0.5;", 0);
        fault("p0;5;", 0);
        fault("t5,", 0);
        fault("t5,5;", 0);
        fault("t;", 0);
        fault("t-5;", 0);
        fault("t 5;", 0);
        fault(" t5;", 0);
        fault("t5; ", 3);
        fault("T5;", 0);
        fault("x5;", 0);
        fault("5;", 0);
        fault("t5;p0,5;a0,0,9;", 8);
        fault("t5;p0,5;a0,0,9,0,0;", 8);
        fault("t5;p0,5;a0,0,9,0", 8);
        fault("e5;g2;e5,1;", 6);
        fault("e5;g2;q;x", 6);
    }

    private static void faultOfNumbers() {
        fault("p3,99;", Check.NONE);
        fault("p4,0;", 0);
        fault("p0,0;p10,0;", 5);
        fault("t1;t60;", Check.NONE);
        fault("t1;t61;", 3);
        fault("t0;", 0);
        fault("e0;e30;", Check.NONE);
        fault("e30;e31;", 4);
        fault("g0;g9;", Check.NONE);
        fault("g9;g10;", 3);
        fault("p0,0;t1;a0,0,1,0;a0,0,30,9;", Check.NONE);
        fault("p0,0;t1;a0,0,0,0;", 8);
        fault("p0,0;t1;a0,0,31,0;", 8);
        fault("p0,0;t1;a0,0,1,10;", 8);
        fault("p0,0;t1;a1,0,1,0;", 8);
        fault("p0,0;t1;a0,1,1,0;", 8);
        fault("p0,0;a0,0,1,0;t1;", 5);
        fault("t1;a0,0,1,0;p0,0;", 3);
        fault("p0,0;t1;t1;a0,1,1,0;a1,1,1,0;", 21 - 1);
    }

    private static void faultOfHowMany() {
        fault("p0,1;p0,1;p0,1;p0,1;p0,1;p0,1;", Check.NONE);
        fault("p0,1;p0,1;p0,1;p0,1;p0,1;p0,1;p0,1;", 30);
        fault("t1;t1;t1;t1;t1;t1;", Check.NONE);
        fault("t1;t1;t1;t1;t1;t1;t1;", 18);
        String nine = "p0,1;t1;" + "a0,0,1,0;".repeat(9);
        fault(nine, Check.NONE);
        fault(nine + "e1;a0,0,1,0;", 8 + 81 + 3);
        fault("e1;".repeat(60) + "g1;g1;", Check.NONE);
    }

    private static void lay() {
        NearlyBought x = Check.written("t9;t8;t7;p2,30;p1,4;");
        Check.due("lay()", x.lay(), 3);
        Check.due("persons", x.count(0), 2);
        Check.due("things", x.count(1), 3);
        Check.due("kind of 0", x.person(0, 0), 2);
        Check.due("coins of 1", x.person(1, 1), 4);
        Check.due("the text stays", x.count(8), 20);
        Check.due("the pauses of ahead are gone", x.nearly(0, 0, 0), 0);
        Check.due("lay() of the same", x.lay(), 3);
        x.fair();
        Check.due("5 are earned without e", x.person(1, 1), 9);
        Check.due("2 dearer without g", x.thing(0, 0), 11);
    }

    private static void layBeginsAnew() {
        NearlyBought x = new NearlyBought();
        x.fair();
        x.keep();
        x.seen(0, 0, 1);
        Check.put(x, "p0,20;t5;a0,0,9,0;");
        x.fair();
        x.lay();
        int[] counts = {1, 1, 0, 0, 20, 0, 0, 0, 18};
        for (int what = 0; what < counts.length; what++) {
            Check.due("laid anew: count(" + what + ")", x.count(what), counts[what]);
        }
        Check.due("nothing is UNDONE", x.undo(), Check.NO);
        Check.due("nothing is KEPT", x.back(), Check.NO);
        Check.due("nothing is SEEN", x.forget(), 0);
        Check.due("fair()", x.fair(), 1);
    }

    private static void layRefused() {
        String[] texts = {"", "p0,20;", "t5;", "e5;g2;", "p0,20;t5;x", "p0,20;t5", "p4,20;t5;p0,20;t5;"};
        for (String text : texts) {
            NearlyBought x = new NearlyBought();
            x.fair();
            x.keep();
            x.seen(0, 0, 5);
            Check.put(x, text);
            Check.due("lay() of " + text, x.lay(), Check.NO);
            int[] counts = {4, 4, 1, 2, 69, 1, 1, 1, text.length()};
            for (int what = 0; what < counts.length; what++) {
                Check.due("refused " + text + ": count(" + what + ")", x.count(what), counts[what]);
            }
            Check.due("refused: what is laid stays", x.goes(0), 4);
            Check.due("refused: from the first", x.feigned(1), 1);
        }
    }

    private static void layLastEarnedAndDearerCount() {
        NearlyBought x = Check.laid("e7;g9;p0,1;t1;e3;g0;g4;");
        x.fair();
        Check.due("the last e counts", x.person(0, 1), 4);
        Check.due("the last g counts", x.thing(0, 0), 5);
    }

    private static void layForgetsTheOneBefore() {
        NearlyBought x = Check.laid("e7;g9;p0,1;p0,9;t40;t50;a0,0,9,0;a1,1,9,0;");
        Check.fairs(x, 2);
        x.pause(1, 0, 9);
        x.wipe();
        Check.put(x, "p0,1;p2,3;t40;t50;");
        Check.due("lay()", x.lay(), 2);
        Check.due("never missed", x.thing(0, 2), 0);
        Check.due("never paused", x.nearly(1, 0, 0), 0);
        Check.due("never paused", x.nearly(1, 0, 2), Check.NONE);
        Check.due("nobody's claim", x.thing(1, 3), Check.NONE);
        Check.due("coins", x.person(1, 1), 3);
        x.fair();
        Check.due("5 are earned again", x.person(0, 1), 6);
        Check.due("2 dearer again", x.thing(0, 0), 42);
        NearlyBought y = Check.laid("e7;g9;p0,99;t4;a0,0,9,0;");
        y.fair();
        y.wipe();
        Check.put(y, "e30;g31;");
        Check.due("fault()", y.fault(), 4);
        Check.due("worth by the laid g", y.person(0, 3), 99 - 4 + 7 + 13);
        y.fair();
        Check.due("the laid e stays", y.person(0, 1), 109);
    }
}
