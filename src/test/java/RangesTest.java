/**
 * "BAD: a number is none that is told (PERSONS, THINGS: such as there are)": of each number of each call the
 * first and the last that are told, the one ahead of the first and the one behind the last, the least and the
 * greatest of Java; and nothing changes then.
 */
public final class RangesTest {
    private static final int MIN = Integer.MIN_VALUE;
    private static final int MAX = Integer.MAX_VALUE;
    /** PERSONS and THINGS: how many there are is put in. */
    private static final int PERSON = -10;
    private static final int THING = -11;

    /** A call and the first and last of each of its numbers. */
    private record Told(String call, int[]... ranges) {
    }

    private static final int[] PERSONS = {0, PERSON};
    private static final int[] THINGS = {0, THING};
    private static final int[] BIT = {0, 1};
    private static final Told[] TOLD = {
        new Told("write", new int[] {32, 126}),
        new Told("person", PERSONS, new int[] {0, 3}),
        new Told("thing", THINGS, new int[] {0, 3}),
        new Told("nearly", PERSONS, THINGS, new int[] {0, 4}),
        new Told("pause", PERSONS, THINGS, new int[] {1, 30}),
        new Told("give", PERSONS, PERSONS, new int[] {1, 99}),
        new Told("behind", THINGS, new int[] {0, 9}),
        new Told("goes", new int[][] {THINGS}),
        new Told("stop", PERSONS, THINGS, BIT),
        new Told("rank", PERSONS, new int[] {0, MAX}),
        new Told("wanted", new int[][] {BIT}),
        new Told("seen", THINGS, PERSONS, new int[] {1, 9}),
        new Told("feigned", new int[][] {BIT}),
        new Told("counts", PERSONS, new int[] {0, 4}, BIT),
        new Told("cheapest", THINGS, BIT),
        new Told("greens", new int[] {0, 9999}, new int[] {1, 9}, BIT),
        new Told("count", new int[] {0, 8}),
    };

    public static void main(String[] args) {
        for (int persons = 1; persons <= 6; persons++) {
            for (int things = 1; things <= 6; things++) {
                for (Told told : TOLD) {
                    whatIsTold(told, persons, things);
                    whatIsNone(told, persons, things);
                }
            }
        }
        theLastCall();
        Check.end();
    }

    /** "at most 512 calls after it has been made": the 512th is answered as any. */
    private static void theLastCall() {
        NearlyBought x = new NearlyBought();
        for (int call = 1; call <= 511; call++) {
            Check.due("call " + call, x.pause(0, 0, 13), 13);
        }
        Check.due("call 512", x.undo(), 7);
    }

    private static NearlyBought market(int persons, int things) {
        NearlyBought x = Check.laid("p0,99;".repeat(persons) + "t9;".repeat(things) + "a0,0,9,0;");
        x.pause(0, things - 1, 20);
        x.keep();
        x.fair();
        x.seen(0, 0, 1);
        return x;
    }

    private static int last(Told told, int number, int persons, int things) {
        int last = told.ranges()[number][1];
        return last == PERSON ? persons - 1 : last == THING ? things - 1 : last;
    }

    /** The first of each number that is told; a gift needs two that are not alike. */
    private static int[] firsts(Told told, int persons) {
        int[] a = new int[3];
        for (int k = 0; k < told.ranges().length; k++) {
            a[k] = told.ranges()[k][0];
        }
        if (told.call().equals("give")) {
            a[1] = Math.min(1, persons - 1);
        }
        return a;
    }

    private static void whatIsTold(Told told, int persons, int things) {
        boolean gift = told.call().equals("give");
        if (gift && persons == 1) {
            return;
        }
        for (int k = 0; k < told.ranges().length; k++) {
            int[] ends = {told.ranges()[k][0], last(told, k, persons, things)};
            for (int end : ends) {
                int[] a = firsts(told, persons);
                a[k] = end;
                if (gift && a[0] == a[1]) {
                    a[1 - k] = 1 - Math.min(1, end);
                }
                int got = Calls.ask(market(persons, things), told.call(), a);
                Check.holds(name(told, a, persons, things) + " is told, answered " + got, got != Check.BAD);
            }
        }
    }

    private static void whatIsNone(Told told, int persons, int things) {
        NearlyBought x = market(persons, things);
        for (int k = 0; k < told.ranges().length; k++) {
            int first = told.ranges()[k][0];
            int last = last(told, k, persons, things);
            // Behind the greatest of Java there is none.
            int[] none = {first - 1, last == MAX ? MIN : last + 1, MIN, last == MAX ? -2 : MAX};
            for (int number : none) {
                int[] a = firsts(told, persons);
                a[k] = number;
                Check.due(name(told, a, persons, things), Calls.ask(x, told.call(), a), Check.BAD);
            }
        }
        if (persons <= 3 && things <= 3) {
            Check.same(told.call() + " BAD changes nothing, " + persons + "," + things,
                Check.stand(x), Check.stand(market(persons, things)));
        }
    }

    private static String name(Told told, int[] a, int persons, int things) {
        StringBuilder s = new StringBuilder(told.call()).append('(');
        for (int k = 0; k < told.ranges().length; k++) {
            s.append(k == 0 ? "" : ", ").append(a[k]);
        }
        return s.append(") of ").append(persons).append(" PERSONS, ").append(things).append(" THINGS").toString();
    }
}
