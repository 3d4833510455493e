import java.math.BigInteger;

/** Promises 22 to 24: counts, cheapest, greens. */
public final class ChancesTest {
    private static final int[] WRONG = {-1, 4, 6, Integer.MAX_VALUE, Integer.MIN_VALUE};

    public static void main(String[] args) {
        countsByCounting();
        countsKnown();
        cheapest();
        greensKnown();
        greensByHand();
        greensPastTheLastYear();
        wrong();
        Check.end();
    }

    private static int counted(int kind, int breaths) {
        int[] all = {breaths, Math.max(0, breaths - 2), 3 * breaths, 2 * breaths};
        return all[kind];
    }

    /** Every way that n PAUSES may go is gone through. */
    private static void countsByCounting() {
        NearlyBought x = Check.laid("p2,0;p0,0;p3,0;p1,0;t1;");
        int[] kinds = {2, 0, 3, 1};
        for (int i = 0; i < 4; i++) {
            int all = 1;
            for (int n = 0; n <= 4; n++, all *= 12) {
                int any = 0;
                for (int way = 0; way < all; way++) {
                    boolean hit = false;
                    for (int k = 0, rest = way; k < n; k++, rest /= 12) {
                        hit |= counted(kinds[i], rest % 12 + 1) >= 9;
                    }
                    any += hit ? 1 : 0;
                }
                int shared = BigInteger.valueOf(any).gcd(BigInteger.valueOf(all)).intValue();
                Check.due("counts(" + i + ", " + n + ", 0)", x.counts(i, n, 0), any / shared);
                Check.due("counts(" + i + ", " + n + ", 1)", x.counts(i, n, 1), all / shared);
            }
        }
    }

    private static void countsKnown() {
        NearlyBought x = new NearlyBought();
        int[][] known = {{0, 1, 1, 3}, {1, 1, 1, 6}, {2, 1, 5, 6}, {3, 1, 2, 3}, {0, 0, 0, 1}, {2, 4, 1295, 1296}};
        for (int[] k : known) {
            Check.due("above of " + k[0] + ", " + k[1], x.counts(k[0], k[1], 0), k[2]);
            Check.due("below of " + k[0] + ", " + k[1], x.counts(k[0], k[1], 1), k[3]);
        }
    }

    private static void cheapest() {
        NearlyBought x = Check.laid("p0,0;p0,0;p3,0;t20;t20;a0,0,9,0;a1,0,30,0;a2,1,5,4;a0,1,8,0;a2,0,4,0;g5;");
        Check.due("of several the lowest", x.cheapest(0, 0), 0);
        Check.due("as much", x.cheapest(0, 1), 20);
        Check.due("nobody", x.cheapest(1, 0), Check.NONE);
        Check.due("nobody", x.cheapest(1, 1), Check.NONE);
        x.fair();
        x.pause(0, 0, 10);
        Check.due("0 has a dearer one now", x.cheapest(0, 0), 1);
        Check.due("as much as ever", x.cheapest(0, 1), 20);
        x.pause(2, 0, 5);
        Check.due("half of 25", x.cheapest(0, 0), 2);
        Check.due("half of 25", x.cheapest(0, 1), 12);
        x.pause(0, 1, 9);
        Check.due("25", x.cheapest(1, 1), 25);
        Check.fairs(x, 3);
        Check.due("half of 40", x.cheapest(1, 0), 2);
        Check.due("half of 40", x.cheapest(1, 1), 20);
        NearlyBought y = Check.laid("p0,99;p0,0;t20;a0,0,9,0;");
        y.fair();
        Check.due("whosever it is", y.cheapest(0, 0), 0);
        NearlyBought z = Check.laid("p0,0;p3,0;t1;a0,0,9,0;a1,0,5,0;");
        Check.due("for nothing", z.cheapest(0, 0), 1);
        Check.due("0", z.cheapest(0, 1), 0);
    }

    private static void greensKnown() {
        NearlyBought x = new NearlyBought();
        // z = 0, year 0: x is 1, DRAW 0: PERSON 0 before THING 0 for 1 BREATH, by which nothing is otherwise.
        NearlyBought same = new NearlyBought();
        same.fair();
        Check.due("greens(0, 1, 0)", x.greens(0, 1, 0), same.count(3));
        Check.due("greens(0, 1, 1)", x.greens(0, 1, 1), same.count(4));
        Check.due("nothing is done", x.count(6), 0);
        Check.due("year 0", x.count(2), 0);
    }

    private static int draw(int z, int ahead) {
        BigInteger x = BigInteger.valueOf(7919).multiply(BigInteger.valueOf(z))
            .add(BigInteger.valueOf(6151L * ahead)).add(BigInteger.ONE);
        return x.multiply(x).mod(BigInteger.valueOf(65521)).intValue() / 4;
    }

    /** The same years gone through by the calls themselves. */
    private static void greensByHand() {
        String[] texts = {"p0,20;p1,8;p2,35;p3,4;t30;t6;t14;t9;a0,0,12,0;a1,0,9,0;a2,2,3,0;a0,1,10,1;",
            "p2,90;p0,9;p3,5;p2,70;p2,0;t2;t3;t4;t5;t6;t60;e9;g1;", "p3,0;t9;e3;"};
        int[] keys = {0, 1, 2, 3, 77, 4711, 9998, 9999};
        for (String text : texts) {
            for (int z : keys) {
                for (int n = 1; n <= 9; n++) {
                    NearlyBought x = Check.laid(text);
                    int gone = x.greens(z, n, 0);
                    int coins = x.greens(z, n, 1);
                    for (int ahead = 0; ahead < n; ahead++) {
                        int d = draw(z, ahead);
                        x.pause(d % x.count(0), d / 8 % x.count(1), 1 + d / 64 % 12);
                        x.fair();
                    }
                    Check.due("greens(" + z + ", " + n + ", 0) of " + text, gone, x.count(3));
                    Check.due("greens(" + z + ", " + n + ", 1) of " + text, coins, x.count(4));
                }
            }
        }
    }

    private static void greensPastTheLastYear() {
        NearlyBought x = Check.laid("p0,0;t60;e1;");
        Check.fairs(x, 99);
        Check.due("greens(0, 1, 1) in year 99", x.greens(0, 1, 1), 100);
        Check.due("greens(0, 9, 0) in year 99", x.greens(0, 9, 0), 0);
    }

    private static void wrong() {
        NearlyBought x = new NearlyBought();
        for (int w : WRONG) {
            Check.due("counts(" + w + ", 1, 0)", x.counts(w, 1, 0), Check.BAD);
            Check.due("counts(0, 1, " + w + ")", x.counts(0, 1, w), Check.BAD);
            Check.due("cheapest(" + w + ", 0)", x.cheapest(w, 0), Check.BAD);
            Check.due("cheapest(0, " + w + ")", x.cheapest(0, w), Check.BAD);
            Check.due("greens(0, 1, " + w + ")", x.greens(0, 1, w), Check.BAD);
        }
        int[] pauses = {-1, 5, Integer.MAX_VALUE, Integer.MIN_VALUE};
        for (int n : pauses) {
            Check.due("counts(0, " + n + ", 0)", x.counts(0, n, 0), Check.BAD);
        }
        int[] keys = {-1, 10000, Integer.MAX_VALUE, Integer.MIN_VALUE};
        for (int z : keys) {
            Check.due("greens(" + z + ", 1, 0)", x.greens(z, 1, 0), Check.BAD);
        }
        int[] years = {0, 10, -1, Integer.MAX_VALUE, Integer.MIN_VALUE};
        for (int n : years) {
            Check.due("greens(0, " + n + ", 0)", x.greens(0, n, 0), Check.BAD);
        }
        Check.due("counts(0, 1, 2)", x.counts(0, 1, 2), Check.BAD);
        Check.due("cheapest(0, 2)", x.cheapest(0, 2), Check.BAD);
        Check.due("BAD ahead of NONE", x.cheapest(1, 2), Check.BAD);
        Check.due("greens(0, 1, 2)", x.greens(0, 1, 2), Check.BAD);
    }
}
