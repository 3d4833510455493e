/** Promises 25 to 27: keep, back, count. */
public final class KeptTest {
    public static void main(String[] args) {
        keepAndBack();
        whatIsKept();
        whatCanBeUndone();
        count();
        Check.end();
    }

    private static void keepAndBack() {
        NearlyBought x = new NearlyBought();
        Check.due("back() of none", x.back(), Check.NO);
        Check.due("keep()", x.keep(), 1);
        Check.fairs(x, 3);
        Check.due("keep()", x.keep(), 2);
        x.fair();
        Check.due("keep() of a third", x.keep(), Check.FULL);
        Check.due("count(7)", x.count(7), 2);
        Check.due("back() to the last", x.back(), 1);
        Check.due("year", x.count(2), 3);
        x.fair();
        Check.due("keep() in its place", x.keep(), 2);
        x.fair();
        Check.due("back()", x.back(), 1);
        Check.due("year", x.count(2), 4);
        Check.due("back() to the first", x.back(), 0);
        Check.due("year", x.count(2), 0);
        Check.due("back() of none", x.back(), Check.NO);
        Check.due("keep()", x.keep(), 1);
    }

    private static void whatIsKept() {
        NearlyBought x = new NearlyBought();
        x.pause(1, 1, 11);
        x.give(2, 1, 3);
        x.fair();
        x.write('p');
        x.seen(0, 0, 1);
        x.keep();
        int[] before = all(x);
        x.write('0');
        x.seen(0, 0, 2);
        x.pause(0, 0, 30);
        x.pause(1, 1, 30);
        x.give(0, 2, 2);
        Check.fairs(x, 2);
        x.back();
        int[] behind = all(x);
        for (int k = 0; k < before.length; k++) {
            Check.due("kept, answer " + k, behind[k], before[k]);
        }
        Check.due("but THE TEXT", x.count(8), 2);
        Check.due("but what is SEEN", x.count(5), 2);
    }

    private static int[] all(NearlyBought x) {
        int[] answers = new int[4 * 4 + 4 * 4 + 4 * 4 * 5 + 1];
        int at = 0;
        for (int k = 0; k < 4; k++) {
            for (int what = 0; what < 4; what++) {
                answers[at++] = x.person(k, what);
                answers[at++] = x.thing(k, what);
            }
            for (int t = 0; t < 4; t++) {
                for (int what = 0; what < 5; what++) {
                    answers[at++] = x.nearly(k, t, what);
                }
            }
        }
        answers[at] = x.count(2);
        return answers;
    }

    private static void whatCanBeUndone() {
        NearlyBought x = new NearlyBought();
        Check.fairs(x, 4);
        x.keep();
        Check.due("keep() is nothing to undo", x.count(6), 4);
        Check.due("undo() behind keep()", x.undo(), 3);
        Check.due("year", x.count(2), 3);
        Check.due("what is kept stays", x.count(7), 1);
        x.back();
        Check.due("year", x.count(2), 4);
        Check.due("nothing is UNDONE then", x.undo(), Check.NO);
        Check.due("count(6)", x.count(6), 0);
        x.fair();
        Check.due("but what is done behind it", x.undo(), 0);
        Check.due("year", x.count(2), 4);
        x.fair();
        Check.due("back() of none", x.back(), Check.NO);
        Check.due("a refused back() leaves it", x.count(6), 1);
    }

    private static void count() {
        NearlyBought x = Check.laid("p0,20;p3,1;t9;t8;t7;a0,0,9,0;a0,2,9,0;e4;");
        x.fair();
        x.pause(0, 1, 1);
        x.keep();
        x.seen(0, 0, 1);
        x.seen(0, 0, 1);
        x.wipe();
        x.write('x');
        int[] counts = {2, 3, 1, 2, 20 - 9 - 7 + 4 + 5, 2, 2, 1, 1};
        for (int what = 0; what < counts.length; what++) {
            Check.due("count(" + what + ")", x.count(what), counts[what]);
        }
        int[] wrong = {-1, 9, 10, Integer.MAX_VALUE, Integer.MIN_VALUE};
        for (int w : wrong) {
            Check.due("count(" + w + ")", x.count(w), Check.BAD);
        }
    }
}
