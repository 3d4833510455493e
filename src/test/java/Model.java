import java.util.ArrayDeque;
import java.util.ArrayList;
import java.util.Arrays;
import java.util.List;
import java.util.regex.Matcher;
import java.util.regex.Pattern;
import java.util.stream.IntStream;

/** The document told a second time, as slowly and as near to its words as can be: every PAUSE is kept in a list. */
final class Model {
    static final int BAD = -1, NO = -2, FULL = -3, NONE = -4;
    private static final Pattern ITEM = Pattern.compile(
        "(?:p(\\d\\d?),(\\d\\d?)|t(\\d\\d?)|a(\\d\\d?),(\\d\\d?),(\\d\\d?),(\\d\\d?)|e(\\d\\d?)|g(\\d\\d?));");

    record Pause(int i, int t, int b, int y) {
    }

    static final class State {
        int year;
        int[] coins;
        int[] owner;
        int[] missed;
        List<Pause> pauses = new ArrayList<>();

        State copy() {
            State s = new State();
            s.year = year;
            s.coins = coins.clone();
            s.owner = owner.clone();
            s.missed = missed.clone();
            s.pauses = new ArrayList<>(pauses);
            return s;
        }
    }

    static final class Laid {
        List<int[]> persons = new ArrayList<>();
        List<Integer> costs = new ArrayList<>();
        List<Pause> pauses = new ArrayList<>();
        int e = 5;
        int g = 2;
        int fault = NONE;
    }

    StringBuilder text = new StringBuilder();
    Laid laid;
    State now;
    ArrayDeque<State> done = new ArrayDeque<>();
    List<State> kept = new ArrayList<>();
    List<int[]> seen = new ArrayList<>();

    Model() {
        text.append("p0,20;p1,8;p2,35;p3,4;t30;t6;t14;t9;a0,0,12,0;a1,0,9,0;a2,2,3,0;a3,3,5,0;"
            + "a0,1,10,1;a1,3,9,0;a2,1,2,1;e5;g2;");
        lay();
        text.setLength(0);
    }

    private static Laid parse(String s) {
        Laid l = new Laid();
        Matcher m = ITEM.matcher(s);
        int at = 0;
        while (at < s.length()) {
            m.region(at, s.length());
            if (!m.lookingAt() || !take(l, m)) {
                l.fault = at;
                return l;
            }
            at = m.end();
        }
        return l;
    }

    private static int n(Matcher m, int group) {
        return Integer.parseInt(m.group(group));
    }

    private static boolean take(Laid l, Matcher m) {
        switch (m.group().charAt(0)) {
            case 'p':
                l.persons.add(new int[] {n(m, 1), n(m, 2)});
                return l.persons.size() <= 6 && n(m, 1) <= 3;
            case 't':
                l.costs.add(n(m, 3));
                return l.costs.size() <= 6 && n(m, 3) >= 1 && n(m, 3) <= 60;
            case 'a':
                l.pauses.add(new Pause(n(m, 4), n(m, 5), n(m, 6), n(m, 7)));
                return l.pauses.size() <= 9 && n(m, 4) < l.persons.size() && n(m, 5) < l.costs.size()
                    && n(m, 6) >= 1 && n(m, 6) <= 30 && n(m, 7) <= 9;
            case 'e':
                l.e = n(m, 8);
                return l.e <= 30;
            default:
                l.g = n(m, 9);
                return l.g <= 9;
        }
    }

    private State first(int silent) {
        State s = new State();
        s.coins = laid.persons.stream().mapToInt(p -> p[1]).toArray();
        s.owner = new int[things()];
        Arrays.fill(s.owner, NONE);
        s.missed = new int[things()];
        for (Pause p : laid.pauses) {
            if (p.i() != silent) {
                s.pauses.add(p);
            }
        }
        return s;
    }

    private int persons() {
        return laid.persons.size();
    }

    private int things() {
        return laid.costs.size();
    }

    private boolean noPerson(int i) {
        return i < 0 || i >= persons();
    }

    private boolean noThing(int t) {
        return t < 0 || t >= things();
    }

    private int kind(int i) {
        return laid.persons.get(i)[0];
    }

    private int cost(int t, int year) {
        return laid.costs.get(t) + laid.g * year;
    }

    private int counted(int i, int b) {
        return new int[] {b, Math.max(b - 2, 0), b * 3, b * 2}[kind(i)];
    }

    private Pause standing(State s, int i, int t) {
        Pause best = null;
        for (Pause p : s.pauses) {
            if (p.i() == i && p.t() == t && p.y() <= s.year) {
                if (best == null || p.b() > best.b() || p.b() == best.b() && p.y() < best.y()) {
                    best = p;
                }
            }
        }
        return best;
    }

    private boolean near(State s, int i, int t) {
        Pause p = standing(s, i, t);
        return p != null && counted(i, p.b()) >= 9;
    }

    private int price(State s, int i, int t) {
        int cost = cost(t, standing(s, i, t).y());
        return kind(i) == 3 ? cost / 2 : cost;
    }

    private int claim(State s, int t) {
        int best = NONE;
        for (int i = persons() - 1; i >= 0; i--) {
            if (near(s, i, t) && (best == NONE
                || counted(i, standing(s, i, t).b()) >= counted(best, standing(s, best, t).b()))) {
                best = i;
            }
        }
        return best;
    }

    private int dearest(State s, int i) {
        return IntStream.range(0, things()).filter(t -> near(s, i, t)).map(t -> price(s, i, t)).max().orElse(-1);
    }

    private int hold(State s) {
        int gone = 0;
        for (int t = 0; t < things(); t++) {
            if (s.owner[t] != NONE) {
                continue;
            }
            int c = claim(s, t);
            if (c == NONE) {
                continue;
            }
            int price = price(s, c, t);
            int buyer = NONE;
            if (s.coins[c] >= price) {
                buyer = c;
            } else {
                if (s.missed[t] < 3) {
                    s.missed[t]++;
                }
                if (s.missed[t] == 3) {
                    for (int i = persons() - 1; i >= 0; i--) {
                        if (i != c && s.coins[i] >= price && dearest(s, i) > price
                            && (buyer == NONE || dearest(s, i) >= dearest(s, buyer))) {
                            buyer = i;
                        }
                    }
                }
            }
            if (buyer != NONE) {
                s.coins[buyer] -= price;
                s.owner[t] = buyer;
                gone++;
            }
        }
        for (int i = 0; i < persons(); i++) {
            s.coins[i] = Math.min(999, s.coins[i] + laid.e);
        }
        s.year++;
        return gone;
    }

    private State after(State from, int n) {
        State s = from.copy();
        for (int k = 0; k < n; k++) {
            hold(s);
        }
        return s;
    }

    private void remember() {
        done.addLast(now.copy());
        if (done.size() > 8) {
            done.removeFirst();
        }
    }

    int write(int letter) {
        if (letter < 32 || letter > 126) {
            return BAD;
        }
        if (text.length() == 200) {
            return FULL;
        }
        text.append((char) letter);
        return text.length();
    }

    int wipe() {
        int n = text.length();
        text.setLength(0);
        return n;
    }

    int fault() {
        return parse(text.toString()).fault;
    }

    int lay() {
        Laid l = parse(text.toString());
        if (l.fault != NONE || l.persons.isEmpty() || l.costs.isEmpty()) {
            return NO;
        }
        laid = l;
        now = first(NONE);
        done.clear();
        kept.clear();
        seen.clear();
        return things();
    }

    int person(int i, int what) {
        if (noPerson(i) || what < 0 || what > 3) {
            return BAD;
        }
        int[] his = IntStream.range(0, things()).filter(t -> now.owner[t] == i).toArray();
        return new int[] {kind(i), now.coins[i], his.length,
            now.coins[i] + Arrays.stream(his).map(t -> cost(t, now.year)).sum()}[what];
    }

    int thing(int t, int what) {
        if (noThing(t) || what < 0 || what > 3) {
            return BAD;
        }
        return new int[] {cost(t, now.year), now.owner[t], now.missed[t],
            now.owner[t] == NONE ? claim(now, t) : NONE}[what];
    }

    int nearly(int i, int t, int what) {
        if (noPerson(i) || noThing(t) || what < 0 || what > 4) {
            return BAD;
        }
        Pause p = standing(now, i, t);
        boolean near = near(now, i, t);
        return new int[] {p == null ? 0 : p.b(), p == null ? 0 : counted(i, p.b()), p == null ? NONE : p.y(),
            near ? 1 : 0, near ? price(now, i, t) : NONE}[what];
    }

    int pause(int i, int t, int b) {
        if (noPerson(i) || noThing(t) || b < 1 || b > 30) {
            return BAD;
        }
        remember();
        now.pauses.add(new Pause(i, t, b, now.year));
        return counted(i, standing(now, i, t).b());
    }

    int fair() {
        if (now.year == 99) {
            return NO;
        }
        remember();
        return hold(now);
    }

    int give(int i, int j, int c) {
        if (noPerson(i) || noPerson(j) || i == j || c < 1 || c > 99) {
            return BAD;
        }
        if (now.coins[i] < c) {
            return NO;
        }
        if (now.coins[j] + c > 999) {
            return FULL;
        }
        remember();
        now.coins[i] -= c;
        now.coins[j] += c;
        return now.coins[i];
    }

    int undo() {
        if (done.isEmpty()) {
            return NO;
        }
        now = done.removeLast();
        return done.size();
    }

    int behind(int t, int n) {
        return noThing(t) || n < 0 || n > 9 ? BAD : after(now, n).owner[t];
    }

    int goes(int t) {
        if (noThing(t)) {
            return BAD;
        }
        return IntStream.rangeClosed(0, 9).filter(n -> after(now, n).owner[t] != NONE).findFirst().orElse(NONE);
    }

    int never() {
        State s = after(now, 9);
        return IntStream.range(0, things()).filter(t -> s.owner[t] == NONE).map(t -> 1 << t).sum();
    }

    int stop(int i, int t, int what) {
        if (noPerson(i) || noThing(t) || what < 0 || what > 1) {
            return BAD;
        }
        for (int b = 0; b <= 30; b++) {
            State s = now.copy();
            if (b > 0) {
                s.pauses.add(new Pause(i, t, b, s.year));
            }
            if (after(s, 9).owner[t] == i) {
                int n = 0;
                while (after(s, n).owner[t] != i) {
                    n++;
                }
                return what == 0 ? b : n;
            }
        }
        return NONE;
    }

    int rank(int i, int k) {
        if (noPerson(i) || k < 0) {
            return BAD;
        }
        List<Integer> ranked = new ArrayList<>();
        for (int t = 0; t < things(); t++) {
            if (near(now, i, t)) {
                ranked.add(t);
            }
        }
        ranked.sort((a, b) -> price(now, i, b) - price(now, i, a));
        return k < ranked.size() ? ranked.get(k) : NONE;
    }

    int wanted(int what) {
        if (what < 0 || what > 1) {
            return BAD;
        }
        int best = 0;
        int most = 0;
        for (int t = 0; t < things(); t++) {
            int thing = t;
            int n = (int) IntStream.range(0, persons()).filter(i -> near(now, i, thing)).count();
            if (n > most) {
                best = t;
                most = n;
            }
        }
        return what == 0 ? best : most;
    }

    int seen(int t, int i, int n) {
        if (noThing(t) || noPerson(i) || n < 1 || n > 9) {
            return BAD;
        }
        if (seen.size() == 6) {
            return FULL;
        }
        seen.add(new int[] {t, i, n});
        return seen.size();
    }

    int forget() {
        int n = seen.size();
        seen.clear();
        return n;
    }

    private boolean soWithout(int silent) {
        State s = first(silent);
        return seen.stream().allMatch(k -> after(s, k[2]).owner[k[0]] == k[1]);
    }

    int feigned(int what) {
        if (what < 0 || what > 1) {
            return BAD;
        }
        if (what == 1) {
            return soWithout(NONE) ? 1 : 0;
        }
        return IntStream.range(0, persons()).filter(this::soWithout).map(i -> 1 << i).sum();
    }

    int counts(int i, int n, int part) {
        if (noPerson(i) || n < 0 || n > 4 || part < 0 || part > 1) {
            return BAD;
        }
        int hits = (int) IntStream.rangeClosed(1, 12).filter(b -> counted(i, b) >= 9).count();
        int below = (int) Math.round(Math.pow(12, n));
        int above = below - (int) Math.round(Math.pow(12 - hits, n));
        for (int d = below; d > 1; d--) {
            if (above % d == 0 && below % d == 0) {
                above /= d;
                below /= d;
            }
        }
        return part == 0 ? above : below;
    }

    int cheapest(int t, int what) {
        if (noThing(t) || what < 0 || what > 1) {
            return BAD;
        }
        int best = NONE;
        for (int i = persons() - 1; i >= 0; i--) {
            if (near(now, i, t) && (best == NONE || price(now, i, t) <= price(now, best, t))) {
                best = i;
            }
        }
        return what == 0 || best == NONE ? best : price(now, best, t);
    }

    int greens(int z, int n, int what) {
        if (z < 0 || z > 9999 || n < 1 || n > 9 || what < 0 || what > 1) {
            return BAD;
        }
        State s = now.copy();
        for (int k = 0; k < n; k++) {
            long x = 7919L * z + 6151L * k + 1;
            int draw = (int) ((x * x % 65521) / 4);
            s.pauses.add(new Pause(draw % persons(), (draw / 8) % things(), 1 + (draw / 64) % 12, s.year));
            hold(s);
        }
        return what == 0 ? (int) Arrays.stream(s.owner).filter(o -> o != NONE).count() : Arrays.stream(s.coins).sum();
    }

    int keep() {
        if (kept.size() == 2) {
            return FULL;
        }
        kept.add(now.copy());
        return kept.size();
    }

    int back() {
        if (kept.isEmpty()) {
            return NO;
        }
        now = kept.remove(kept.size() - 1);
        done.clear();
        return kept.size();
    }

    int count(int what) {
        int[] all = {persons(), things(), now.year, (int) Arrays.stream(now.owner).filter(o -> o != NONE).count(),
            Arrays.stream(now.coins).sum(), seen.size(), done.size(), kept.size(), text.length()};
        return what < 0 || what >= all.length ? BAD : all[what];
    }
}
