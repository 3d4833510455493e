import java.util.Arrays;

/** A fair, once a year, for what one nearly bought; ../shared/DOC.md tells what each call answers. */
public final class NearlyBought {
    public static final int BAD = -1, NO = -2, FULL = -3, NONE = -4;

    private static final int MOST_LETTERS = 200;
    private static final int MOST_PERSONS = 6;
    private static final int MOST_THINGS = 6;
    private static final int MOST_PAUSES = 9;
    private static final int MOST_BREATHS = 30;
    private static final int MOST_COINS = 999;
    private static final int MOST_GIVEN = 99;
    private static final int MOST_FAIRS = 9;
    private static final int MOST_MISSED = 3;
    private static final int MOST_UNDONE = 8;
    private static final int MOST_KEPT = 2;
    private static final int MOST_SEEN = 6;
    private static final int LAST_YEAR = 99;
    private static final int ENOUGH_BREATHS = 9;

    private static final int MASKED = 1;
    private static final int THIEF = 2;
    private static final int CHILD = 3;
    private static final int LAST_KIND = CHILD;

    private static final int MOST_DRAWN_PAUSES = 4;
    private static final int MOST_DRAWN_BREATHS = 12;
    private static final int LAST_DRAW_KEY = 9999;

    private static final String FIRST_TEXT =
        "p0,20;p1,8;p2,35;p3,4;t30;t6;t14;t9;a0,0,12,0;a1,0,9,0;a2,2,3,0;a3,3,5,0;a0,1,10,1;a1,3,9,0;a2,1,2,1;e5;g2;";

    private final int[] text = new int[MOST_LETTERS];
    private final Reader reader = new Reader();
    private final Tale draft = new Tale();
    private final Tale laid = new Tale();
    private final Market now = new Market(laid);
    private final Market trial = new Market(laid);
    private final History history = new History(laid);
    private final Market[] kept = new Market[MOST_KEPT];
    private final Sights sights = new Sights();
    private int textLength;
    private int keptCount;

    public NearlyBought() {
        for (int k = 0; k < MOST_KEPT; k++) {
            kept[k] = new Market(laid);
        }
        putFirstText();
        layTheText();
        textLength = 0;
    }

    // ---- greens

    public int write(int letter) {
        if (letter < 32 || letter > 126) {
            return BAD;
        }
        if (textLength >= MOST_LETTERS) {
            return FULL;
        }
        text[textLength] = letter;
        textLength++;
        return textLength;
    }

    public int wipe() {
        int length = textLength;
        textLength = 0;
        return length;
    }

    public int fault() {
        return reader.read(text, textLength, draft);
    }

    public int lay() {
        // A draft takes the reading, for a refused TEXT must leave what is LAID as it is.
        if (reader.read(text, textLength, draft) != NONE || !draft.canBeLaid()) {
            return NO;
        }
        layTheText();
        return laid.things;
    }

    public int person(int i, int what) {
        if (!laid.hasPerson(i)) {
            return BAD;
        }
        switch (what) {
            case 0: return laid.kind[i];
            case 1: return now.coins[i];
            case 2: return now.thingsOf(i);
            case 3: return now.worthOf(i);
            default: return BAD;
        }
    }

    public int thing(int t, int what) {
        if (!laid.hasThing(t)) {
            return BAD;
        }
        switch (what) {
            case 0: return laid.costIn(t, now.year);
            case 1: return now.owner[t];
            case 2: return now.missed[t];
            case 3: return now.isFree(t) ? now.claimantOf(t) : NONE;
            default: return BAD;
        }
    }

    public int nearly(int i, int t, int what) {
        if (!laid.hasPerson(i) || !laid.hasThing(t)) {
            return BAD;
        }
        switch (what) {
            case 0: return now.breaths[i][t];
            case 1: return now.counted[i][t];
            case 2: return now.since[i][t];
            case 3: return now.price[i][t] != NONE ? 1 : 0;
            case 4: return now.price[i][t];
            default: return BAD;
        }
    }

    // ---- acts

    public int pause(int i, int t, int b) {
        if (!laid.hasPerson(i) || !laid.hasThing(t) || b < 1 || b > MOST_BREATHS) {
            return BAD;
        }
        history.remember(now);
        now.addPause(i, t, b);
        return now.counted[i][t];
    }

    public int fair() {
        if (now.year >= LAST_YEAR) {
            return NO;
        }
        history.remember(now);
        return now.holdFair();
    }

    public int give(int i, int j, int c) {
        if (!laid.hasPerson(i) || !laid.hasPerson(j) || i == j || c < 1 || c > MOST_GIVEN) {
            return BAD;
        }
        if (now.coins[i] < c) {
            return NO;
        }
        if (now.coins[j] + c > MOST_COINS) {
            return FULL;
        }
        history.remember(now);
        now.coins[i] -= c;
        now.coins[j] += c;
        return now.coins[i];
    }

    public int undo() {
        if (history.size == 0) {
            return NO;
        }
        history.restore(now);
        return history.size;
    }

    // ---- what would be

    public int behind(int t, int n) {
        if (!laid.hasThing(t) || n < 0 || n > MOST_FAIRS) {
            return BAD;
        }
        trial.copyFrom(now);
        trial.holdFairs(n);
        return trial.owner[t];
    }

    public int goes(int t) {
        if (!laid.hasThing(t)) {
            return BAD;
        }
        trial.copyFrom(now);
        return trial.fairsTillGone(t);
    }

    public int never() {
        trial.copyFrom(now);
        trial.holdFairs(MOST_FAIRS);
        int bits = 0;
        for (int t = 0; t < laid.things; t++) {
            if (trial.isFree(t)) {
                bits |= 1 << t;
            }
        }
        return bits;
    }

    public int stop(int i, int t, int what) {
        if (!laid.hasPerson(i) || !laid.hasThing(t) || what < 0 || what > 1) {
            return BAD;
        }
        for (int b = 0; b <= MOST_BREATHS; b++) {
            trial.copyFrom(now);
            if (b > 0) {
                trial.addPause(i, t, b);
            }
            // What has gone stays whose it is, so nothing behind that FAIR can matter.
            int fairs = trial.fairsTillGone(t);
            if (trial.owner[t] == i) {
                return what == 0 ? b : fairs;
            }
        }
        return NONE;
    }

    public int rank(int i, int k) {
        if (!laid.hasPerson(i) || k < 0) {
            return BAD;
        }
        for (int t = 0; t < laid.things; t++) {
            if (now.price[i][t] != NONE && now.dearerTo(i, t) == k) {
                return t;
            }
        }
        return NONE;
    }

    public int wanted(int what) {
        if (what < 0 || what > 1) {
            return BAD;
        }
        int best = 0;
        for (int t = 1; t < laid.things; t++) {
            if (now.wantersOf(t) > now.wantersOf(best)) {
                best = t;
            }
        }
        return what == 0 ? best : now.wantersOf(best);
    }

    // ---- what was seen

    public int seen(int t, int i, int n) {
        if (!laid.hasThing(t) || !laid.hasPerson(i) || n < 1 || n > MOST_FAIRS) {
            return BAD;
        }
        if (sights.size >= MOST_SEEN) {
            return FULL;
        }
        sights.add(t, i, n);
        return sights.size;
    }

    public int forget() {
        int were = sights.size;
        sights.size = 0;
        return were;
    }

    public int feigned(int what) {
        if (what < 0 || what > 1) {
            return BAD;
        }
        if (what == 1) {
            return sights.allHoldIn(trial, NONE) ? 1 : 0;
        }
        int bits = 0;
        for (int i = 0; i < laid.persons; i++) {
            if (sights.allHoldIn(trial, i)) {
                bits |= 1 << i;
            }
        }
        return bits;
    }

    // ---- chances, worth

    public int counts(int i, int n, int part) {
        if (!laid.hasPerson(i) || n < 0 || n > MOST_DRAWN_PAUSES || part < 0 || part > 1) {
            return BAD;
        }
        int all = 1;
        int misses = 1;
        for (int k = 0; k < n; k++) {
            all *= MOST_DRAWN_BREATHS;
            misses *= uncountedDraws(i);
        }
        int shared = Math.max(1, greatestDivisor(all, all - misses));
        return part == 0 ? (all - misses) / shared : all / shared;
    }

    public int cheapest(int t, int what) {
        if (!laid.hasThing(t) || what < 0 || what > 1) {
            return BAD;
        }
        int least = NONE;
        int leastPrice = NONE;
        for (int i = 0; i < laid.persons; i++) {
            int price = now.price[i][t];
            if (price != NONE && (least == NONE || price < leastPrice)) {
                least = i;
                leastPrice = price;
            }
        }
        return what == 0 ? least : leastPrice;
    }

    public int greens(int z, int n, int what) {
        if (z < 0 || z > LAST_DRAW_KEY || n < 1 || n > MOST_FAIRS || what < 0 || what > 1) {
            return BAD;
        }
        trial.copyFrom(now);
        for (int ahead = 0; ahead < n; ahead++) {
            addDrawnPause(draw(z, ahead));
            trial.holdFair();
        }
        return what == 0 ? trial.thingsGone() : trial.coinsOfAll();
    }

    // ---- kept

    public int keep() {
        if (keptCount >= MOST_KEPT) {
            return FULL;
        }
        kept[keptCount].copyFrom(now);
        keptCount++;
        return keptCount;
    }

    public int back() {
        if (keptCount == 0) {
            return NO;
        }
        keptCount--;
        now.copyFrom(kept[keptCount]);
        history.size = 0;
        return keptCount;
    }

    public int count(int what) {
        switch (what) {
            case 0: return laid.persons;
            case 1: return laid.things;
            case 2: return now.year;
            case 3: return now.thingsGone();
            case 4: return now.coinsOfAll();
            case 5: return sights.size;
            case 6: return history.size;
            case 7: return keptCount;
            case 8: return textLength;
            default: return BAD;
        }
    }

    private void putFirstText() {
        textLength = Math.min(FIRST_TEXT.length(), MOST_LETTERS);
        for (int k = 0; k < textLength; k++) {
            text[k] = FIRST_TEXT.charAt(k);
        }
    }

    /** Only for a TEXT that is known to be without FAULT. */
    private void layTheText() {
        reader.read(text, textLength, laid);
        now.begin(NONE);
        history.size = 0;
        keptCount = 0;
        sights.size = 0;
    }

    private int uncountedDraws(int i) {
        int draws = 0;
        for (int b = 1; b <= MOST_DRAWN_BREATHS; b++) {
            if (laid.countedFor(i, b) < ENOUGH_BREATHS) {
                draws++;
            }
        }
        return draws;
    }

    private static int greatestDivisor(int a, int b) {
        int greater = a;
        int lesser = b;
        // Euclid's steps for int numbers are fewer than 50; the counter only shows the end.
        for (int step = 0; step < 100 && lesser != 0; step++) {
            int rest = greater % lesser;
            greater = lesser;
            lesser = rest;
        }
        return greater;
    }

    private static int draw(int z, int ahead) {
        long x = 7919L * z + 6151L * ahead + 1L;
        return (int) (x * x % 65521L / 4L);
    }

    private void addDrawnPause(int drawn) {
        if (laid.persons > 0 && laid.things > 0) {
            trial.addPause(drawn % laid.persons, drawn / 8 % laid.things, 1 + drawn / 64 % MOST_DRAWN_BREATHS);
        }
    }

    /** What a TEXT tells; it stays as it is until another is LAID. */
    private static final class Tale {
        int persons;
        int things;
        int pauses;
        int earned;
        int dearer;
        final int[] kind = new int[MOST_PERSONS];
        final int[] firstCoins = new int[MOST_PERSONS];
        final int[] firstCost = new int[MOST_THINGS];
        final int[] pauser = new int[MOST_PAUSES];
        final int[] pausedAt = new int[MOST_PAUSES];
        final int[] pauseBreaths = new int[MOST_PAUSES];
        final int[] pauseYear = new int[MOST_PAUSES];

        void clear() {
            persons = 0;
            things = 0;
            pauses = 0;
            earned = 5;
            dearer = 2;
        }

        boolean hasPerson(int i) {
            return i >= 0 && i < persons;
        }

        boolean hasThing(int t) {
            return t >= 0 && t < things;
        }

        boolean canBeLaid() {
            return persons > 0 && things > 0;
        }

        /** False if the numbers are none that the ITEM may tell here. */
        boolean takeItem(int letter, int[] numbers) {
            switch (letter) {
                case 'p': return takePerson(numbers[0], numbers[1]);
                case 't': return takeThing(numbers[0]);
                case 'a': return takePause(numbers);
                case 'e': return takeEarned(numbers[0]);
                case 'g': return takeDearer(numbers[0]);
                default: return false;
            }
        }

        private boolean takePerson(int ofKind, int withCoins) {
            if (persons >= MOST_PERSONS || ofKind > LAST_KIND) {
                return false;
            }
            kind[persons] = ofKind;
            firstCoins[persons] = withCoins;
            persons++;
            return true;
        }

        private boolean takeThing(int cost) {
            if (things >= MOST_THINGS || cost < 1 || cost > 60) {
                return false;
            }
            firstCost[things] = cost;
            things++;
            return true;
        }

        private boolean takePause(int[] numbers) {
            int i = numbers[0];
            int t = numbers[1];
            int b = numbers[2];
            int y = numbers[3];
            if (pauses >= MOST_PAUSES || !hasPerson(i) || !hasThing(t)) {
                return false;
            }
            if (b < 1 || b > MOST_BREATHS || y > 9) {
                return false;
            }
            pauser[pauses] = i;
            pausedAt[pauses] = t;
            pauseBreaths[pauses] = b;
            pauseYear[pauses] = y;
            pauses++;
            return true;
        }

        private boolean takeEarned(int coins) {
            earned = coins;
            return coins <= 30;
        }

        private boolean takeDearer(int coins) {
            dearer = coins;
            return coins <= 9;
        }

        int costIn(int t, int year) {
            return firstCost[t] + dearer * year;
        }

        int priceFor(int i, int t, int year) {
            int cost = costIn(t, year);
            return kind[i] == CHILD ? cost / 2 : cost;
        }

        int countedFor(int i, int breaths) {
            switch (kind[i]) {
                case MASKED: return breaths < 2 ? 0 : breaths - 2;
                case THIEF: return 3 * breaths;
                case CHILD: return 2 * breaths;
                default: return breaths;
            }
        }
    }

    /** Reads a TEXT, ITEM by ITEM, into a Tale. */
    private static final class Reader {
        private static final int MOST_NUMBERS = 4;
        private final int[] numbers = new int[MOST_NUMBERS];
        private int at;

        /** The FAULT of the first length letters, or NONE; with a FAULT the Tale is of no use. */
        int read(int[] letters, int length, Tale tale) {
            tale.clear();
            at = 0;
            for (int item = 0; item < length && at < length; item++) {
                int start = at;
                if (!readItem(letters, length) || !tale.takeItem(letters[start], numbers)) {
                    return start;
                }
            }
            return NONE;
        }

        private boolean readItem(int[] letters, int length) {
            int due = numbersDue(letterAt(letters, length));
            at++;
            for (int k = 0; k < due; k++) {
                int number = readNumber(letters, length);
                int sign = letterAt(letters, length);
                at++;
                if (number < 0 || sign != (k == due - 1 ? ';' : ',')) {
                    return false;
                }
                numbers[k] = number;
            }
            return due > 0;
        }

        private static int numbersDue(int letter) {
            switch (letter) {
                case 'p': return 2;
                case 'a': return MOST_NUMBERS;
                case 't':
                case 'e':
                case 'g': return 1;
                default: return 0;
            }
        }

        /** -1 if there is no figure; a third figure is left, where no sign can be. */
        private int readNumber(int[] letters, int length) {
            int number = -1;
            for (int figures = 0; figures < 2; figures++) {
                int figure = letterAt(letters, length);
                if (figure < '0' || figure > '9') {
                    return number;
                }
                number = Math.max(0, number) * 10 + figure - '0';
                at++;
            }
            return number;
        }

        /** 0, which no TEXT has, behind the end. */
        private int letterAt(int[] letters, int length) {
            return at >= 0 && at < length && at < letters.length ? letters[at] : 0;
        }
    }

    /** All that changes from YEAR to YEAR; copies of it are what can be UNDONE, what is KEPT, and what would be. */
    private static final class Market {
        private final Tale tale;
        int year;
        /** Whose PAUSES the TEXT tells in vain; NONE, but for what would have been. */
        private int silent = NONE;
        final int[] coins = new int[MOST_PERSONS];
        final int[] owner = new int[MOST_THINGS];
        final int[] missed = new int[MOST_THINGS];
        // By PERSON and THING; only the PAUSE that stands is held: PAUSES come in the order of
        // YEARS, so a later one of as many BREATHS never takes its place.
        final int[][] breaths = new int[MOST_PERSONS][MOST_THINGS];
        final int[][] since = new int[MOST_PERSONS][MOST_THINGS];
        // What follows from the two, held since every FAIR asks for it: BREATHS COUNTED,
        // and the PRICE, NONE (below every PRICE) for who did not NEARLY buy it.
        final int[][] counted = new int[MOST_PERSONS][MOST_THINGS];
        final int[][] price = new int[MOST_PERSONS][MOST_THINGS];

        Market(Tale tale) {
            this.tale = tale;
        }

        void begin(int silentPerson) {
            year = 0;
            silent = silentPerson;
            System.arraycopy(tale.firstCoins, 0, coins, 0, MOST_PERSONS);
            Arrays.fill(owner, NONE);
            Arrays.fill(missed, 0);
            for (int i = 0; i < MOST_PERSONS; i++) {
                Arrays.fill(breaths[i], 0);
                Arrays.fill(since[i], NONE);
                Arrays.fill(counted[i], 0);
                Arrays.fill(price[i], NONE);
            }
            addToldPauses();
        }

        void copyFrom(Market other) {
            year = other.year;
            silent = other.silent;
            System.arraycopy(other.coins, 0, coins, 0, MOST_PERSONS);
            System.arraycopy(other.owner, 0, owner, 0, MOST_THINGS);
            System.arraycopy(other.missed, 0, missed, 0, MOST_THINGS);
            for (int i = 0; i < MOST_PERSONS; i++) {
                System.arraycopy(other.breaths[i], 0, breaths[i], 0, MOST_THINGS);
                System.arraycopy(other.since[i], 0, since[i], 0, MOST_THINGS);
                System.arraycopy(other.counted[i], 0, counted[i], 0, MOST_THINGS);
                System.arraycopy(other.price[i], 0, price[i], 0, MOST_THINGS);
            }
        }

        void addPause(int i, int t, int madeBreaths) {
            if (madeBreaths <= breaths[i][t]) {
                return;
            }
            breaths[i][t] = madeBreaths;
            since[i][t] = year;
            counted[i][t] = tale.countedFor(i, madeBreaths);
            price[i][t] = counted[i][t] >= ENOUGH_BREATHS ? tale.priceFor(i, t, year) : NONE;
        }

        private void addToldPauses() {
            for (int a = 0; a < tale.pauses; a++) {
                if (tale.pauseYear[a] == year && tale.pauser[a] != silent) {
                    addPause(tale.pauser[a], tale.pausedAt[a], tale.pauseBreaths[a]);
                }
            }
        }

        boolean isFree(int t) {
            return owner[t] == NONE;
        }

        int claimantOf(int t) {
            int claimant = NONE;
            int most = ENOUGH_BREATHS - 1;
            for (int i = 0; i < tale.persons; i++) {
                if (counted[i][t] > most) {
                    claimant = i;
                    most = counted[i][t];
                }
            }
            return claimant;
        }

        int holdFair() {
            int gone = 0;
            for (int t = 0; t < tale.things; t++) {
                if (isFree(t) && sell(t)) {
                    gone++;
                }
            }
            for (int i = 0; i < tale.persons; i++) {
                coins[i] = Math.min(coins[i] + tale.earned, MOST_COINS);
            }
            year++;
            addToldPauses();
            return gone;
        }

        void holdFairs(int n) {
            for (int k = 0; k < n; k++) {
                holdFair();
            }
        }

        /** Holds FAIRS until the THING is somebody's: how many it took, or NONE. */
        int fairsTillGone(int t) {
            int fairs = 0;
            for (; fairs < MOST_FAIRS && isFree(t); fairs++) {
                holdFair();
            }
            return isFree(t) ? NONE : fairs;
        }

        private boolean sell(int t) {
            int claimant = claimantOf(t);
            if (claimant == NONE) {
                return false;
            }
            int asked = price[claimant][t];
            int buyer = claimant;
            if (coins[claimant] < asked) {
                missed[t] = Math.min(missed[t] + 1, MOST_MISSED);
                buyer = missed[t] == MOST_MISSED ? buyerInsteadOf(claimant, asked) : NONE;
            }
            if (buyer == NONE) {
                return false;
            }
            coins[buyer] -= asked;
            owner[t] = buyer;
            return true;
        }

        private int buyerInsteadOf(int claimant, int asked) {
            int buyer = NONE;
            int most = asked;
            for (int i = 0; i < tale.persons; i++) {
                if (i != claimant && coins[i] >= asked && dearestOf(i) > most) {
                    buyer = i;
                    most = dearestOf(i);
                }
            }
            return buyer;
        }

        private int dearestOf(int i) {
            int dearest = NONE;
            for (int t = 0; t < tale.things; t++) {
                if (price[i][t] > dearest) {
                    dearest = price[i][t];
                }
            }
            return dearest;
        }

        /** How many THINGS stand ahead of this one, that he NEARLY bought, in the PERSON'S RANK. */
        int dearerTo(int i, int t) {
            int ahead = 0;
            for (int other = 0; other < tale.things; other++) {
                if (price[i][other] > price[i][t] || price[i][other] == price[i][t] && other < t) {
                    ahead++;
                }
            }
            return ahead;
        }

        int wantersOf(int t) {
            int wanters = 0;
            for (int i = 0; i < tale.persons; i++) {
                if (price[i][t] != NONE) {
                    wanters++;
                }
            }
            return wanters;
        }

        int thingsOf(int i) {
            int his = 0;
            for (int t = 0; t < tale.things; t++) {
                if (owner[t] == i) {
                    his++;
                }
            }
            return his;
        }

        int worthOf(int i) {
            int worth = coins[i];
            for (int t = 0; t < tale.things; t++) {
                if (owner[t] == i) {
                    worth += tale.costIn(t, year);
                }
            }
            return worth;
        }

        int thingsGone() {
            int gone = 0;
            for (int t = 0; t < tale.things; t++) {
                if (!isFree(t)) {
                    gone++;
                }
            }
            return gone;
        }

        int coinsOfAll() {
            int sum = 0;
            for (int i = 0; i < tale.persons; i++) {
                sum += coins[i];
            }
            return sum;
        }
    }

    /** How all stood ahead of the latest acts; a ring, so that the oldest gives way to the newest. */
    private static final class History {
        private final Market[] before = new Market[MOST_UNDONE];
        private int next;
        int size;

        History(Tale tale) {
            for (int k = 0; k < MOST_UNDONE; k++) {
                before[k] = new Market(tale);
            }
        }

        void remember(Market market) {
            before[next].copyFrom(market);
            next = (next + 1) % MOST_UNDONE;
            size = Math.min(size + 1, MOST_UNDONE);
        }

        void restore(Market market) {
            next = (next + MOST_UNDONE - 1) % MOST_UNDONE;
            size = Math.max(size - 1, 0);
            market.copyFrom(before[next]);
        }
    }

    /** What is SEEN. */
    private static final class Sights {
        private final int[] things = new int[MOST_SEEN];
        private final int[] persons = new int[MOST_SEEN];
        private final int[] fairs = new int[MOST_SEEN];
        int size;

        void add(int t, int i, int n) {
            if (size < MOST_SEEN) {
                things[size] = t;
                persons[size] = i;
                fairs[size] = n;
                size++;
            }
        }

        /** Whether all would be so from the first on, had the silent PERSON (NONE: nobody) not PAUSED. */
        boolean allHoldIn(Market market, int silent) {
            market.begin(silent);
            for (int held = 1; held <= MOST_FAIRS; held++) {
                market.holdFair();
                for (int k = 0; k < size; k++) {
                    if (fairs[k] == held && market.owner[things[k]] != persons[k]) {
                        return false;
                    }
                }
            }
            return true;
        }
    }
}
