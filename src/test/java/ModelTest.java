import java.util.Random;

/** Drawn runs of calls (the same each time), each answer against that of Model. */
public final class ModelTest {
    private static final String[] CALLS = {"write", "wipe", "fault", "lay", "person", "thing", "nearly", "pause",
        "fair", "give", "undo", "behind", "goes", "never", "stop", "rank", "wanted", "seen", "forget", "feigned",
        "counts", "cheapest", "greens", "keep", "back", "count"};
    // What is asked often; wipe, lay and forget seldom, so that a run comes far.
    private static final int[] WEIGHT = {2, 1, 2, 1, 4, 4, 6, 12, 14, 8, 3, 4, 4, 3, 6, 5, 3, 6, 1, 4, 2, 4, 4, 2, 2, 4};

    public static void main(String[] args) {
        for (int run = 0; run < 1500; run++) {
            run(run, new Random(run));
        }
        for (int k = 0; k < 20000; k++) {
            faults(new Random(k));
        }
        Check.end();
    }

    private static void run(int run, Random r) {
        NearlyBought x = new NearlyBought();
        Model m = new Model();
        int calls = 0;
        if (r.nextInt(5) != 0) {
            String text = text(r);
            calls = text.length() + 1;
            for (int k = 0; k < text.length(); k++) {
                x.write(text.charAt(k));
                m.write(text.charAt(k));
            }
            Check.due("run " + run + ": lay() of " + text, x.lay(), m.lay());
        }
        int total = 0;
        for (int w : WEIGHT) {
            total += w;
        }
        for (; calls < 512; calls++) {
            int at = r.nextInt(total);
            int which = 0;
            while (at >= WEIGHT[which]) {
                at -= WEIGHT[which];
                which++;
            }
            boolean wild = r.nextInt(25) == 0;
            int[] a = arguments(CALLS[which], m, r);
            for (int k = 0; wild && k < 3; k++) {
                a[k] = wild(a[k], r);
            }
            String call = "run " + run + ", call " + calls + ": " + CALLS[which] + "(" + a[0] + ", " + a[1] + ", " + a[2] + ")";
            Check.due(call, Calls.ask(x, CALLS[which], a), due(m, CALLS[which], a));
        }
    }

    private static int wild(int a, Random r) {
        int[] any = {a, a + 1, a - 1, -1, 0, r.nextInt(12), 9, 10, Integer.MAX_VALUE, Integer.MIN_VALUE, r.nextInt()};
        return any[r.nextInt(any.length)];
    }

    private static int[] arguments(String call, Model m, Random r) {
        int i = r.nextInt(m.count(0));
        int t = r.nextInt(m.count(1));
        switch (call) {
            case "write": return new int[] {"p0,1;t9a2eg"
                .charAt(r.nextInt(11)), 0, 0};
            case "person":
            case "thing": return new int[] {call.equals("person") ? i : t, r.nextInt(4), 0};
            case "nearly": return new int[] {i, t, r.nextInt(5)};
            case "pause": return new int[] {i, t, 1 + r.nextInt(r.nextBoolean() ? 12 : 30)};
            case "give": return new int[] {i, r.nextInt(m.count(0)), 1 + r.nextInt(99)};
            case "behind": return new int[] {t, r.nextInt(10), 0};
            case "stop": return new int[] {i, t, r.nextInt(2)};
            case "rank": return new int[] {i, r.nextInt(4), 0};
            case "seen": return sight(m, i, t, r);
            case "counts": return new int[] {i, r.nextInt(5), r.nextInt(2)};
            case "cheapest": return new int[] {t, r.nextInt(2), 0};
            case "greens": return new int[] {r.nextInt(10000), 1 + r.nextInt(9), r.nextInt(2)};
            case "count": return new int[] {r.nextInt(9), 0, 0};
            case "goes": return new int[] {t, 0, 0};
            default: return new int[] {r.nextInt(2), 0, 0};
        }
    }

    /** Mostly what is so now, and so may be so from the first. */
    private static int[] sight(Model m, int i, int t, Random r) {
        int owner = m.thing(t, 1);
        return new int[] {t, owner >= 0 && r.nextInt(4) != 0 ? owner : i, 1 + r.nextInt(9)};
    }

    private static String text(Random r) {
        StringBuilder s = new StringBuilder();
        int persons = 1 + r.nextInt(6);
        int things = 1 + r.nextInt(6);
        // Poor ones miss, and only what is missed goes to others.
        int rich = new int[] {1, 20, 60, 100}[r.nextInt(4)];
        for (int k = 0; k < persons; k++) {
            s.append('p').append(r.nextInt(4)).append(',').append(r.nextInt(3) == 0 ? r.nextInt(100) : r.nextInt(rich)).append(';');
        }
        for (int k = 0; k < things; k++) {
            s.append('t').append(1 + r.nextInt(60)).append(';');
        }
        for (int k = r.nextInt(10); k > 0; k--) {
            s.append('a').append(r.nextInt(persons)).append(',').append(r.nextInt(things)).append(',')
                .append(1 + r.nextInt(30)).append(',').append(r.nextInt(3) == 0 ? r.nextInt(10) : r.nextInt(2)).append(';');
        }
        if (r.nextInt(3) != 0) {
            s.append('e').append(r.nextInt(r.nextBoolean() ? 6 : 31)).append(';');
        }
        if (r.nextInt(3) != 0) {
            s.append('g').append(r.nextInt(10)).append(';');
        }
        return s.toString();
    }

    /** A TEXT with a letter or two changed, put in or left out. */
    private static void faults(Random r) {
        StringBuilder s = new StringBuilder(text(r));
        for (int k = r.nextInt(3); k >= 0 && s.length() > 2; k--) {
            int at = r.nextInt(s.length());
            char letter = "0123456789,;ptaeg p0,;t".charAt(r.nextInt(23));
            switch (r.nextInt(3)) {
                case 0: s.setCharAt(at, letter); break;
                case 1: s.insert(at, letter); break;
                default: s.deleteCharAt(at);
            }
        }
        NearlyBought x = Check.written(s.toString());
        Model m = new Model();
        for (int k = 0; k < s.length(); k++) {
            m.write(s.charAt(k));
        }
        Check.due("fault() of " + s, x.fault(), m.fault());
        Check.due("lay() of " + s, x.lay(), m.lay());
        Check.due("count(4) behind lay() of " + s, x.count(4), m.count(4));
    }

    private static int due(Model m, String call, int[] a) {
        switch (call) {
            case "write": return m.write(a[0]);
            case "wipe": return m.wipe();
            case "fault": return m.fault();
            case "lay": return m.lay();
            case "person": return m.person(a[0], a[1]);
            case "thing": return m.thing(a[0], a[1]);
            case "nearly": return m.nearly(a[0], a[1], a[2]);
            case "pause": return m.pause(a[0], a[1], a[2]);
            case "fair": return m.fair();
            case "give": return m.give(a[0], a[1], a[2]);
            case "undo": return m.undo();
            case "behind": return m.behind(a[0], a[1]);
            case "goes": return m.goes(a[0]);
            case "never": return m.never();
            case "stop": return m.stop(a[0], a[1], a[2]);
            case "rank": return m.rank(a[0], a[1]);
            case "wanted": return m.wanted(a[0]);
            case "seen": return m.seen(a[0], a[1], a[2]);
            case "forget": return m.forget();
            case "feigned": return m.feigned(a[0]);
            case "counts": return m.counts(a[0], a[1], a[2]);
            case "cheapest": return m.cheapest(a[0], a[1]);
            case "greens": return m.greens(a[0], a[1], a[2]);
            case "keep": return m.keep();
            case "back": return m.back();
            default: return m.count(a[0]);
        }
    }
}
