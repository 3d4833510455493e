import java.util.ArrayList;
import java.util.List;
import java.util.function.Consumer;
import java.util.function.ToIntFunction;

/**
 * "BAD: .. NO: not as things stand. NONE: there is none. FULL. Of several the first in this order; nothing changes
 * then": each call that is refused, and all that it leaves as it was, told by a twin of which it is not asked:
 * how things stand, what is UNDONE and KEPT behind it, and what THE TEXT lays.
 */
public final class RefusedTest {
    private static final String TEXT = "p0,20;p3,9;t30;t6;a0,0,9,0;a1,1,5,1;e4;g3;";

    public static void main(String[] args) {
        amidst();
        nothingThere();
        lastYear();
        fullLetters();
        fullCoins();
        fullSeen();
        fullKept();
        faultyTexts();
        order();
        Check.end();
    }

    /** Asks for what is refused, and compares the whole with that of the twin. */
    private static void refused(String name, Consumer<NearlyBought> made, int due, ToIntFunction<NearlyBought> call) {
        NearlyBought x = new NearlyBought();
        NearlyBought twin = new NearlyBought();
        made.accept(x);
        made.accept(twin);
        Check.due(name, call.applyAsInt(x), due);
        Check.due(name + ", again", call.applyAsInt(x), due);
        Check.same(name + " leaves all", whole(x), whole(twin));
    }

    /** Asks until nothing is left: nobody else may ask this object behind it. */
    private static int[] whole(NearlyBought x) {
        List<Integer> all = new ArrayList<>();
        addStand(all, x);
        for (int k = 0; k < 2 && x.count(6) > 0; k++) {
            all.add(x.undo());
            addStand(all, x);
        }
        for (int k = 0; k < 2 && x.count(7) > 0; k++) {
            all.add(x.back());
            addStand(all, x);
        }
        all.add(x.forget());
        all.add(x.lay());
        addStand(all, x);
        return all.stream().mapToInt(Integer::intValue).toArray();
    }

    private static void addStand(List<Integer> all, NearlyBought x) {
        for (int answer : Check.stand(x)) {
            all.add(answer);
        }
    }

    /** Of everything something: two KEPT, three to be UNDONE, two SEEN. */
    private static void ripe(NearlyBought x) {
        Check.put(x, TEXT);
        x.lay();
        x.keep();
        x.pause(0, 1, 12);
        x.fair();
        x.keep();
        x.give(0, 1, 5);
        x.seen(0, 0, 4);
        x.seen(1, 1, 2);
    }

    private static void poor(NearlyBought x) {
        Check.put(x, "p0,0;p3,0;t60;t59;a0,0,9,0;e0;");
        x.lay();
        x.keep();
        x.fair();
    }

    private static void amidst() {
        int[] letters = {31, 127, 0, -1, 368};
        for (int letter : letters) {
            refused("write(" + letter + ")", RefusedTest::ripe, Check.BAD, x -> x.write(letter));
        }
        for (int none : new int[] {-1, 2}) {
            refused("pause(" + none + ", 0, 30)", RefusedTest::ripe, Check.BAD, x -> x.pause(none, 0, 30));
            refused("pause(0, " + none + ", 30)", RefusedTest::ripe, Check.BAD, x -> x.pause(0, none, 30));
            refused("give(" + none + ", 0, 1)", RefusedTest::ripe, Check.BAD, x -> x.give(none, 0, 1));
            refused("give(0, " + none + ", 1)", RefusedTest::ripe, Check.BAD, x -> x.give(0, none, 1));
            refused("seen(" + none + ", 0, 1)", RefusedTest::ripe, Check.BAD, x -> x.seen(none, 0, 1));
            refused("seen(0, " + none + ", 1)", RefusedTest::ripe, Check.BAD, x -> x.seen(0, none, 1));
        }
        for (int none : new int[] {-1, 0, 31}) {
            refused("pause(0, 0, " + none + ")", RefusedTest::ripe, Check.BAD, x -> x.pause(0, 0, none));
        }
        for (int none : new int[] {-1, 0, 100}) {
            refused("give(1, 0, " + none + ")", RefusedTest::ripe, Check.BAD, x -> x.give(1, 0, none));
        }
        for (int none : new int[] {-1, 0, 10}) {
            refused("seen(0, 0, " + none + ")", RefusedTest::ripe, Check.BAD, x -> x.seen(0, 0, none));
        }
        refused("give(1, 1, 1)", RefusedTest::ripe, Check.BAD, x -> x.give(1, 1, 1));
        refused("give() of one more", RefusedTest::ripe, Check.NO, x -> x.give(0, 1, x.person(0, 1) + 1));
        refused("give() of 99", RefusedTest::ripe, Check.NO, x -> x.give(0, 1, 99));
    }

    private static void nothingThere() {
        Consumer<NearlyBought> laid = x -> {
            Check.put(x, TEXT);
            x.lay();
        };
        refused("undo() of none", laid, Check.NO, NearlyBought::undo);
        refused("back() of none", laid, Check.NO, NearlyBought::back);
        refused("goes() of what never goes", RefusedTest::poor, Check.NONE, x -> x.goes(0));
        refused("behind() of nobody's", laid, Check.NONE, x -> x.behind(0, 0));
        refused("stop() of one too poor", RefusedTest::poor, Check.NONE, x -> x.stop(1, 0, 0));
        refused("rank() of none", laid, Check.NONE, x -> x.rank(1, 0));
        refused("cheapest() of none", laid, Check.NONE, x -> x.cheapest(1, 0));
        refused("thing() of nobody's", laid, Check.NONE, x -> x.thing(1, 1));
        refused("thing() of nobody's CLAIM", laid, Check.NONE, x -> x.thing(1, 3));
        refused("nearly() of none", laid, Check.NONE, x -> x.nearly(1, 0, 2));
        refused("fault() of none", laid, Check.NONE, NearlyBought::fault);
        refused("undo() behind back()", laid.andThen(x -> {
            x.keep();
            x.fair();
            x.back();
        }), Check.NO, NearlyBought::undo);
        refused("back() with much to be UNDONE", laid.andThen(x -> Check.fairs(x, 9)), Check.NO, NearlyBought::back);
    }

    private static void lastYear() {
        Consumer<NearlyBought> last = x -> {
            Check.put(x, TEXT);
            x.lay();
            Check.fairs(x, 99);
        };
        refused("fair() in YEAR 99", last, Check.NO, NearlyBought::fair);
        refused("fair() in YEAR 99, behind a PAUSE", last.andThen(x -> x.pause(1, 0, 30)), Check.NO, NearlyBought::fair);
    }

    /** The 201st is refused, and the 200 are read as they were. */
    private static void fullLetters() {
        Consumer<NearlyBought> full = x -> Check.put(x, TEXT + "e5;".repeat(50) + "e10;e11;");
        NearlyBought x = new NearlyBought();
        full.accept(x);
        Check.due("so long", x.count(8), 200);
        refused("write() of the 201st", full, Check.FULL, y -> y.write(';'));
        refused("write() of no letter at 200", full, Check.BAD, y -> y.write(127));
    }

    private static void fullCoins() {
        Consumer<NearlyBought> rich = x -> {
            Check.put(x, "p0,99;p3,90;t60;t59;e30;g9;");
            x.lay();
            Check.fairs(x, 30);
        };
        refused("give() to 1000", rich, Check.FULL, x -> x.give(0, 1, 10));
        refused("give() to 1089", rich, Check.FULL, x -> x.give(0, 1, 99));
        refused("give() to 1000, of one", rich.andThen(x -> x.fair()), Check.FULL, x -> x.give(1, 0, 1));
    }

    private static void fullSeen() {
        Consumer<NearlyBought> six = x -> {
            ripe(x);
            for (int n = 5; n <= 8; n++) {
                x.seen(0, 0, n);
            }
        };
        refused("seen() of a seventh", six, Check.FULL, x -> x.seen(0, 1, 1));
        refused("seen() of no THING at six", six, Check.BAD, x -> x.seen(2, 1, 1));
    }

    private static void fullKept() {
        refused("keep() of a third", RefusedTest::ripe, Check.FULL, NearlyBought::keep);
    }

    /** A refused TEXT leaves what is LAID, though its first ITEMS are so. */
    private static void faultyTexts() {
        String[] texts = {"", "e9;g9;", "p1,50;p2,60;p0,70;", "t1;t2;t3;", "p1,50;p2,60;t1;t2;t3;a0,0,30,0;e9;g9;x",
            "p1,50;t1;a0,0,30,0;a1,0,1,0;", "p1,50;t1;e31;", "p1,50;t1;g10;", "p1,50;t1"};
        for (String text : texts) {
            refused("lay() of " + text, x -> {
                ripe(x);
                x.wipe();
                Check.put(x, text);
            }, Check.NO, NearlyBought::lay);
        }
    }

    /** BAD ahead of NONE, NO and FULL; NO ahead of FULL (see FairEdgesTest, too). */
    private static void order() {
        NearlyBought x = Check.laid("p0,0;p0,0;t60;t60;");
        Check.due("behind(0, 9) is NONE", x.behind(0, 9), Check.NONE);
        Check.due("behind(0, 10)", x.behind(0, 10), Check.BAD);
        Check.due("behind(2, 9)", x.behind(2, 9), Check.BAD);
        Check.due("goes(0) is NONE", x.goes(0), Check.NONE);
        Check.due("goes(2)", x.goes(2), Check.BAD);
        Check.due("stop(0, 0, 1) is NONE", x.stop(0, 0, 1), Check.NONE);
        Check.due("stop(0, 0, 2)", x.stop(0, 0, 2), Check.BAD);
        Check.due("stop(2, 0, 1)", x.stop(2, 0, 1), Check.BAD);
        Check.due("stop(0, 2, 1)", x.stop(0, 2, 1), Check.BAD);
        Check.due("rank(0, 0) is NONE", x.rank(0, 0), Check.NONE);
        Check.due("rank(0, -1)", x.rank(0, -1), Check.BAD);
        Check.due("rank(2, 0)", x.rank(2, 0), Check.BAD);
        Check.due("cheapest(0, 1) is NONE", x.cheapest(0, 1), Check.NONE);
        Check.due("cheapest(0, 2)", x.cheapest(0, 2), Check.BAD);
        Check.due("cheapest(2, 1)", x.cheapest(2, 1), Check.BAD);
        Check.due("thing(0, 3) is NONE", x.thing(0, 3), Check.NONE);
        Check.due("thing(0, 4)", x.thing(0, 4), Check.BAD);
        Check.due("nearly(0, 0, 4) is NONE", x.nearly(0, 0, 4), Check.NONE);
        Check.due("nearly(0, 0, 5)", x.nearly(0, 0, 5), Check.BAD);
        Check.due("give(0, 1, 1) is NO", x.give(0, 1, 1), Check.NO);
        Check.due("give(0, 2, 1)", x.give(0, 2, 1), Check.BAD);
        Check.due("give(0, 1, 100)", x.give(0, 1, 100), Check.BAD);
        Check.due("give(0, 0, 1)", x.give(0, 0, 1), Check.BAD);
    }
}
