import java.util.Arrays;

/**
 * Hammocks side by side on a deck: who hangs where, who wakes whom, and what would be better.
 * What each call promises stands in the project's document; README.md says how to begin.
 */
public final class HammockDeck {
    public static final int BAD = -1, FULL = -2, FINDING = -3, STATE = -4, SPENT = -6, NONE = -9;

    private static final int NOTHING = 1, BEYOND = 2, UNLIKE = 3, NOUGHT = 4, SIZE = 5;

    private static final int ROWS = 6, MOST_INTS = 40;
    private static final int TEXTS = 4, MOST_BYTES = 60, BLANK = 32;
    private static final int KEPT_PLACES = 3;
    private static final int MISSING = -1;
    private static final int MORE_THAN_ANY = 1000000;

    private static final int FEWEST_HOOKS = 2, MOST_HOOKS = 7, MOST_MEN = 6;
    private static final int SHORTEST_LINE = 1, LONGEST_LINE = 9, LAST_WATCH = 1, LAST_MESS = 3;
    private static final int MOST_DEEDS = 60, MOST_TIRED = 99, MOST_LOTS = 20;

    private static final int TALL = 1, SNORER = 2, DEAF = 3, GIANT = 4, LIGHT = 5;
    private static final char[] KIND_LETTERS = {'m', 't', 's', 'f', 'n', 'i'};
    private static final int[] KIND_BULK = {0, 1, 0, 0, 2, 0};
    private static final char[] PLACE_LETTERS = {'.', 'd', 'l', 'u', 'g'};
    private static final int[] PLACE_WAKES = {0, 1, 3, 2, -1};
    private static final int SNORING_WAKES = 2;

    private static final int IN_PORT = 0, WATCH_0_UP = 1, WATCH_1_UP = 2;
    private static final int MAN_DETAILS = 6, HOOK_DETAILS = 2, COUNTS = 9;
    private static final int LEAST_IN_ALL = 0, LEAST_FOR_WORST = 1, LEAST_BY_BOTH_WATCHES = 2;
    private static final int EVEN_GAIN = 100, PAIR_BASE = 6;
    private static final long LOT_FACTOR = 48271L, LOT_MODULUS = 2147483647L;

    private final Row[] rows = new Row[ROWS];
    private final Row[] texts = new Row[TEXTS];
    private Crew crew = new Crew();
    private final Berths now = new Berths(crew);
    private final Berths aside = new Berths(crew);
    private final Log log = new Log(0);
    private final Log[] kept = new Log[KEPT_PLACES];

    private int told = 0;
    private long upperTold = 0;
    private long lowerTold = 1;
    private int latestFinding = 0;
    private final int[] findingCounts = new int[SIZE + 1];

    public HammockDeck() {
        for (int r = 0; r < rows.length; r++) rows[r] = new Row();
        for (int t = 0; t < texts.length; t++) texts[t] = new Row();
        for (int k = 0; k < kept.length; k++) kept[k] = new Log(MISSING);
    }

    // ---- 1 rows, texts, decks

    public int row(int r, int n) {
        return renewed(rowAt(r), n, MOST_INTS, 0);
    }

    public int lay(int r, int i, int v) {
        Row row = rowAt(r);
        if (row == null) return BAD;
        if (row.isMissing()) return found(NOTHING);
        if (!row.has(i)) return found(BEYOND);
        tell(row.get(i));
        row.set(i, v);
        return 1;
    }

    public int at(int r, int i) {
        Row row = rowAt(r);
        if (row == null) return BAD;
        if (row.isMissing()) return found(NOTHING);
        if (!row.has(i)) return found(BEYOND);
        tell(row.get(i));
        return 1;
    }

    public int tear(int r) {
        Row row = rowAt(r);
        if (row == null) return BAD;
        if (row.isMissing()) return found(NOTHING);
        row.discard();
        return 1;
    }

    public int copy(int r, int i, int to, int j, int n) {
        Row source = rowAt(r);
        Row target = rowAt(to);
        if (source == null || target == null) return BAD;
        if (n < 0) return found(SIZE);
        if (source.isMissing() || target.isMissing()) return found(NOTHING);
        if (!source.spans(i, n) || !target.spans(j, n)) return found(BEYOND);
        source.copyTo(i, target, j, n);
        return 1;
    }

    public int mean(int r) {
        Row row = rowAt(r);
        if (row == null) return BAD;
        if (row.isMissing()) return found(NOTHING);
        if (row.size == 0) return found(NOUGHT);
        tell((int) (row.sum() / row.size));
        return 1;
    }

    public int text(int t, int n) {
        return renewed(textAt(t), n, MOST_BYTES, BLANK);
    }

    public int put(int t, int i, int v) {
        Row text = textAt(t);
        if (text == null) return BAD;
        if (text.isMissing()) return found(NOTHING);
        if (!text.has(i)) return found(BEYOND);
        int before = text.get(i);
        text.set(i, (byte) v);
        return before + 1000;
    }

    public int fault(int t) {
        Row text = textAt(t);
        if (text == null) return BAD;
        if (text.isMissing()) return found(NOTHING);
        return new Reader(text, new Crew()).read();
    }

    public int deck(int t) {
        Row text = textAt(t);
        if (text == null) return BAD;
        if (text.isMissing()) return found(NOTHING);
        // a crew of its own: a faulty text must leave the one that hangs as it is
        Crew newCrew = new Crew();
        if (new Reader(text, newCrew).read() != NONE) return STATE;
        crew = newCrew;
        now.begin(newCrew);
        log.begin(now);
        for (int k = 0; k < kept.length; k++) kept[k].discard();
        return newCrew.men;
    }

    public int man(int m, int what) {
        if (!crew.hasMan(m) || what < 0 || what >= MAN_DETAILS) return BAD;
        tell(now.manDetail(m, what));
        return 1;
    }

    public int hook(int h, int what) {
        if (!crew.hasHook(h) || what < 0 || what >= HOOK_DETAILS) return BAD;
        tell(now.hookDetail(h, what));
        return 1;
    }

    public int mark(int m, int kind) {
        if (!crew.hasMan(m) || kind < TALL || kind > LIGHT) return BAD;
        if (!crew.isOf(m, kind)) return found(UNLIKE);
        int beside = now.neighbourBits(m, IN_PORT);
        switch (kind) {
            case TALL: return Integer.bitCount(beside);
            case SNORER: return Integer.bitCount(beside & ~crew.bitsOf(DEAF));
            case DEAF: return Integer.bitCount(beside & crew.bitsOf(SNORER));
            case GIANT: return Integer.bitCount(crew.bitsOf(TALL)) - 1;
            default: return now.wakings(m, IN_PORT) / 2;
        }
    }

    // ---- 2 deeds

    public int hang(int m, int h) {
        if (!crew.hasMan(m) || !crew.hasHook(h)) return BAD;
        if (!now.isFree(h)) return STATE;
        if (!log.hasRoomFor(1)) return FULL;
        now.move(m, h);
        log.add(now);
        return h;
    }

    public int down(int m) {
        if (!crew.hasMan(m)) return BAD;
        if (!now.hangs(m)) return STATE;
        if (!log.hasRoomFor(1)) return FULL;
        int h = now.hooks[m];
        now.move(m, NONE);
        log.add(now);
        return h;
    }

    public int change(int m, int k) {
        if (!crew.hasMan(m) || !crew.hasMan(k) || m == k) return BAD;
        if (!now.hangs(m) && !now.hangs(k)) return STATE;
        if (!log.hasRoomFor(1)) return FULL;
        now.swap(m, k);
        log.add(now);
        return 1;
    }

    public int line(int m, int v) {
        if (!crew.hasMan(m) || v < SHORTEST_LINE || v > LONGEST_LINE) return BAD;
        int before = now.lines[m];
        if (before == v) return STATE;
        if (!log.hasRoomFor(1)) return FULL;
        now.lines[m] = v;
        log.add(now);
        return before;
    }

    public int night(int when) {
        if (!isWhen(when)) return BAD;
        if (crew.men == 0) return STATE;
        if (!log.hasRoomFor(1)) return FULL;
        return sleptThrough(when);
    }

    public int undo(int n) {
        if (n < 0 || n > log.deeds) return BAD;
        int undone = log.deeds - n;
        log.goBackTo(n, now);
        return undone;
    }

    public int keep(int k) {
        if (!isKeptPlace(k)) return BAD;
        if (crew.men == 0) return STATE;
        kept[k].copyFrom(log);
        return log.deeds;
    }

    public int on(int k) {
        if (!isKeptPlace(k)) return BAD;
        if (kept[k].isMissing()) return found(NOTHING);
        log.copyFrom(kept[k]);
        log.goBackTo(log.deeds, now);
        return log.deeds;
    }

    // ---- 3 who wakes whom

    public int neighbours(int m, int when) {
        if (!crew.hasMan(m) || !isWhen(when)) return BAD;
        return now.neighbourBits(m, when);
    }

    public int woken(int m, int when) {
        if (!crew.hasMan(m) || !isWhen(when)) return BAD;
        return now.wakings(m, when);
    }

    public int all(int when) {
        if (!isWhen(when)) return BAD;
        tell(now.howManyIn(when));
        return now.allWakings(when);
    }

    public int worst(int when) {
        if (!isWhen(when)) return BAD;
        int worst = NONE;
        int most = -1;
        for (int m = 0; m < crew.men; m++) {
            int much = now.wakings(m, when);
            if (now.isIn(m, when) && much > most) {
                worst = m;
                most = much;
            }
        }
        if (worst != NONE) tell(most);
        return worst;
    }

    public int by(int m, int when) {
        if (!crew.hasMan(m) || !isWhen(when)) return BAD;
        if (!now.isIn(m, when)) return NONE;
        int beside = now.neighbourBits(m, when);
        int waker = NONE;
        int most = -1;
        for (int k = 0; k < crew.men; k++) {
            if ((beside & (1 << k)) == 0) continue;
            int less = now.wakings(m, when) - wakingsWithout(k, m, when);
            if (less > most) {
                waker = k;
                most = less;
            }
        }
        if (waker != NONE) tell(most);
        return waker;
    }

    // ---- 4 who hangs where (aside)

    public int best(int when, int r) {
        return isWhen(when) ? leastPlan(LEAST_IN_ALL, when, rowAt(r)) : BAD;
    }

    public int fair(int when, int r) {
        return isWhen(when) ? leastPlan(LEAST_FOR_WORST, when, rowAt(r)) : BAD;
    }

    public int mixed(int r) {
        return leastPlan(LEAST_BY_BOTH_WATCHES, IN_PORT, rowAt(r));
    }

    public int judge(int r, int when) {
        Row plan = rowAt(r);
        if (plan == null || !isWhen(when)) return BAD;
        if (crew.men == 0) return STATE;
        if (plan.isMissing()) return found(NOTHING);
        if (plan.size != crew.men) return found(SIZE);
        aside.copyFrom(now);
        if (!aside.hangBy(plan)) return found(UNLIKE);
        return aside.allWakings(when);
    }

    public int gain(int m, int k, int when) {
        if (!crew.hasMan(m) || !crew.hasMan(k) || m == k || !isWhen(when)) return BAD;
        aside.copyFrom(now);
        aside.swap(m, k);
        return EVEN_GAIN + now.allWakings(when) - aside.allWakings(when);
    }

    public int calm(int when) {
        if (!isWhen(when)) return BAD;
        int pair = firstGladPair(when);
        tell(pair);
        return pair == NONE ? 1 : 0;
    }

    public int mates() {
        if (crew.men == 0) return STATE;
        int most = 0;
        beginPlans();
        for (int left = crew.planCount(); left > 0; left--) {
            most = Math.max(most, aside.messmatePairs());
            aside.hangByNextPlan();
        }
        tell(most);
        return now.messmatePairs();
    }

    // ---- 5 lines, getting up

    public int cut(int m, int when) {
        if (!crew.hasMan(m) || !isWhen(when)) return BAD;
        int line = NONE;
        int least = MORE_THAN_ANY;
        aside.copyFrom(now);
        for (int v = SHORTEST_LINE; v <= LONGEST_LINE; v++) {
            aside.lines[m] = v;
            int much = aside.allWakings(when);
            if (much < least) {
                line = v;
                least = much;
            }
        }
        tell(least);
        return line;
    }

    public int up(int when, int r) {
        Row order = rowAt(r);
        if (order == null || !isWhen(when)) return BAD;
        if (crew.men == 0) return STATE;
        aside.copyFrom(now);
        int howMany = aside.howManyIn(when);
        order.renew(howMany, 0);
        int much = 0;
        for (int i = 0; i < howMany; i++) {
            int m = aside.firstToGetUp(when);
            // there is always one: but a number is looked at before it is an index
            if (!crew.hasMan(m)) break;
            much += aside.inTheWayOf(m, when);
            order.set(i, m);
            aside.move(m, NONE);
        }
        return much;
    }

    // ---- 6 books, lots

    public int fits(int r) {
        Row book = rowAt(r);
        if (book == null) return BAD;
        if (crew.men == 0) return STATE;
        if (book.isMissing()) return found(NOTHING);
        if (book.size % 2 != 0) return found(SIZE);
        for (int i = 0; i < book.size; i += 2) {
            if (!isWhen(book.get(i))) return found(UNLIKE);
        }
        countFitting(book);
        return 1;
    }

    public int mid(int when) {
        if (!isWhen(when)) return BAD;
        if (crew.men == 0) return STATE;
        long sum = 0;
        beginPlans();
        for (int left = crew.planCount(); left > 0; left--) {
            sum += aside.allWakings(when);
            aside.hangByNextPlan();
        }
        tellMean(sum, crew.planCount());
        return 1;
    }

    public int lots(int n, int seed) {
        if (n < 1 || n > MOST_LOTS || seed < 1 || seed >= LOT_MODULUS) return BAD;
        if (crew.men == 0) return STATE;
        if (!log.hasRoomFor(n)) return FULL;
        long lot = seed;
        int more = 0;
        for (int i = 0; i < n; i++) {
            lot = lot * LOT_FACTOR % LOT_MODULUS;
            more += sleptThrough((int) (lot / 16 % 3));
        }
        return more;
    }

    // ---- 7 what is told

    public int asked() {
        return told;
    }

    public long upper() {
        return upperTold;
    }

    public long lower() {
        return lowerTold;
    }

    public int count(int what) {
        return what < 0 || what >= COUNTS ? BAD : counted(what);
    }

    public int finding() {
        return latestFinding;
    }

    public int findings(int f) {
        return f < NOTHING || f > SIZE ? BAD : findingCounts[f];
    }

    public long digest() {
        long h = 17;
        for (int what = 0; what < COUNTS; what++) h = 31 * h + counted(what);
        for (int i = 0; i < crew.hooks; i++) {
            for (int what = 0; what < HOOK_DETAILS; what++) h = 31 * h + now.hookDetail(i, what);
        }
        for (int m = 0; m < crew.men; m++) {
            for (int what = 0; what < MAN_DETAILS; what++) h = 31 * h + now.manDetail(m, what);
        }
        for (int k = 0; k < kept.length; k++) h = 31 * h + kept[k].deeds;
        for (int r = 0; r < rows.length; r++) h = rows[r].digestedOnto(h);
        for (int t = 0; t < texts.length; t++) h = texts[t].digestedOnto(h);
        return h;
    }

    // ---- what the calls share

    private Row rowAt(int r) {
        return r >= 0 && r < rows.length ? rows[r] : null;
    }

    private Row textAt(int t) {
        return t >= 0 && t < texts.length ? texts[t] : null;
    }

    private static boolean isWhen(int when) {
        return when >= IN_PORT && when <= WATCH_1_UP;
    }

    private boolean isKeptPlace(int k) {
        return k >= 0 && k < kept.length;
    }

    private int found(int finding) {
        if (finding >= NOTHING && finding <= SIZE) findingCounts[finding]++;
        latestFinding = finding;
        return FINDING;
    }

    private void tell(int v) {
        told = v;
    }

    private void tellMean(long sum, long among) {
        // at least 1: nothing is divided by 0, whatever comes in
        long divisor = Math.max(1, commonDivisor(sum, among));
        upperTold = sum / divisor;
        lowerTold = among / divisor;
    }

    private static long commonDivisor(long a, long b) {
        long greater = a;
        long lesser = b;
        // every two steps halve the numbers at least: 130 are enough for any two longs
        for (int step = 0; step < 130 && lesser != 0; step++) {
            long rest = greater % lesser;
            greater = lesser;
            lesser = rest;
        }
        return Math.abs(greater);
    }

    private int renewed(Row row, int n, int most, int v) {
        if (row == null || n > most) return BAD;
        if (n < 0) return found(SIZE);
        row.renew(n, v);
        return n;
    }

    private int sleptThrough(int when) {
        int more = now.tire(when);
        log.add(now);
        return more;
    }

    private int wakingsWithout(int k, int m, int when) {
        aside.copyFrom(now);
        aside.move(k, NONE);
        return aside.wakings(m, when);
    }

    private void beginPlans() {
        aside.copyFrom(now);
        aside.hangByFirstPlan();
    }

    private int leastPlan(int goal, int when, Row plan) {
        if (plan == null) return BAD;
        if (crew.men == 0) return STATE;
        plan.renew(crew.men, 0);
        int least = MORE_THAN_ANY;
        beginPlans();
        for (int left = crew.planCount(); left > 0; left--) {
            int much = weighed(goal, when);
            if (much < least) {
                least = much;
                for (int m = 0; m < crew.men; m++) plan.set(m, aside.hooks[m]);
            }
            aside.hangByNextPlan();
        }
        return least;
    }

    private int weighed(int goal, int when) {
        switch (goal) {
            case LEAST_IN_ALL: return aside.allWakings(when);
            case LEAST_FOR_WORST: return aside.mostWakings(when);
            default: return aside.allWakings(WATCH_0_UP) + aside.allWakings(WATCH_1_UP);
        }
    }

    private int firstGladPair(int when) {
        for (int m = 0; m < crew.men; m++) {
            for (int k = m + 1; k < crew.men; k++) {
                if (wouldBothGladlyChange(m, k, when)) return PAIR_BASE * m + k;
            }
        }
        return NONE;
    }

    private boolean wouldBothGladlyChange(int m, int k, int when) {
        if (!now.isIn(m, when) || !now.isIn(k, when)) return false;
        aside.copyFrom(now);
        aside.swap(m, k);
        return aside.wakings(m, when) < now.wakings(m, when) && aside.wakings(k, when) < now.wakings(k, when);
    }

    private void countFitting(Row book) {
        int fitting = 0;
        int hook = NONE;
        beginPlans();
        for (int left = crew.planCount(); left > 0; left--) {
            if (fitsBook(book)) {
                int h = aside.hooks[0];
                hook = fitting == 0 || hook == h ? h : NONE;
                fitting++;
            }
            aside.hangByNextPlan();
        }
        upperTold = fitting;
        lowerTold = 1;
        tell(hook);
    }

    private boolean fitsBook(Row book) {
        for (int when = IN_PORT; when <= WATCH_1_UP; when++) {
            if (!fitsBookBy(when, book)) return false;
        }
        return true;
    }

    private boolean fitsBookBy(int when, Row book) {
        int much = NONE;
        for (int i = 0; i < book.size; i += 2) {
            if (book.get(i) != when) continue;
            // reckoned once a plan, however often the book tells of this when
            if (much == NONE) much = aside.allWakings(when);
            if (much != book.get(i + 1)) return false;
        }
        return true;
    }

    private int counted(int what) {
        switch (what) {
            case 0: return crew.men;
            case 1: return crew.hooks;
            case 2: return log.deeds;
            case 3: return now.howManyIn(IN_PORT);
            case 4: return now.tiredTogether();
            case 5: return Integer.bitCount(crew.bitsOf(TALL));
            case 6: return howManyThere(rows);
            case 7: return howManyThere(texts);
            default: return howManyKept();
        }
    }

    private static int howManyThere(Row[] some) {
        int there = 0;
        for (int i = 0; i < some.length; i++) {
            if (!some[i].isMissing()) there++;
        }
        return there;
    }

    private int howManyKept() {
        int there = 0;
        for (int k = 0; k < kept.length; k++) {
            if (!kept[k].isMissing()) there++;
        }
        return there;
    }

    /** A row of numbers (a text is one of bytes), or a missing one: its room is made once for all. */
    private static final class Row {
        private final int[] values = new int[MOST_BYTES];
        private int size = MISSING;

        boolean isMissing() {
            return size == MISSING;
        }

        boolean has(int i) {
            return i >= 0 && i < size;
        }

        boolean spans(int i, int n) {
            return i >= 0 && i <= size && n >= 0 && n <= size - i;
        }

        int get(int i) {
            return has(i) ? values[i] : 0;
        }

        void set(int i, int v) {
            if (has(i)) values[i] = v;
        }

        void renew(int n, int v) {
            size = Math.max(0, Math.min(n, values.length));
            Arrays.fill(values, v);
        }

        void discard() {
            size = MISSING;
        }

        void copyTo(int i, Row target, int j, int n) {
            if (spans(i, n) && target.spans(j, n)) System.arraycopy(values, i, target.values, j, n);
        }

        long sum() {
            long sum = 0;
            for (int i = 0; i < size; i++) sum += get(i);
            return sum;
        }

        long digestedOnto(long before) {
            long h = 31 * before + size;
            for (int i = 0; i < size; i++) h = 31 * h + get(i);
            return h;
        }
    }

    /** The hooks and men of a deck, as its text tells them: no deed changes these. */
    private static final class Crew {
        private int hooks = 0;
        private int men = 0;
        private final int[] places = new int[MOST_HOOKS];
        private final int[] kinds = new int[MOST_MEN];
        private final int[] firstLines = new int[MOST_MEN];
        private final int[] watches = new int[MOST_MEN];
        private final int[] messes = new int[MOST_MEN];

        boolean hasHook(int h) {
            return h >= 0 && h < hooks;
        }

        boolean hasMan(int m) {
            return m >= 0 && m < men;
        }

        void addHook(int place) {
            if (hooks >= MOST_HOOKS) return;
            places[hooks] = place;
            hooks++;
        }

        void addMan(int kind, int line, int watch, int mess) {
            if (men >= mostMen()) return;
            kinds[men] = kind;
            firstLines[men] = line;
            watches[men] = watch;
            messes[men] = mess;
            men++;
        }

        int mostMen() {
            return Math.min(MOST_MEN, hooks);
        }

        int planCount() {
            int plans = 1;
            for (int m = 0; m < men; m++) plans *= hooks - m;
            return plans;
        }

        boolean isOf(int m, int kind) {
            return kinds[m] == kind || kind == TALL && kinds[m] == GIANT;
        }

        int bitsOf(int kind) {
            int bits = 0;
            for (int m = 0; m < men; m++) {
                if (isOf(m, kind)) bits |= 1 << m;
            }
            return bits;
        }

        int bulk(int m) {
            return KIND_BULK[kinds[m]];
        }

        int placeWakes(int h) {
            return PLACE_WAKES[places[h]];
        }
    }

    /** Goes through a deck's text once, as far as it can go on, and hands what it reads to a crew. */
    private static final class Reader {
        private final Row text;
        private final Crew crew;
        private int place = 0;

        Reader(Row text, Crew crew) {
            this.text = text;
            this.crew = crew;
        }

        /** The fault, or NONE. Whatever can't go on leaves the place where it stands, and that is the fault. */
        int read() {
            skipBlanks();
            if (!readHooks()) return place;
            skipBlanks();
            int most = crew.mostMen();
            for (int m = 0; m < most && place < text.size; m++) {
                if (!readMan()) return place;
                skipBlanks();
            }
            return crew.men > 0 && place == text.size ? NONE : place;
        }

        private void skipBlanks() {
            while (place < text.size && text.get(place) == BLANK) place++;
        }

        private boolean readHooks() {
            if (!text.has(place) || text.get(place) != 'k') return false;
            place++;
            while (place < text.size) {
                int kind = letterIn(PLACE_LETTERS);
                if (kind == NONE) break;
                if (crew.hooks == MOST_HOOKS) return false;
                crew.addHook(kind);
                place++;
            }
            return crew.hooks >= FEWEST_HOOKS;
        }

        private boolean readMan() {
            int kind = letterIn(KIND_LETTERS);
            if (kind == NONE) return false;
            place++;
            int line = readFigure(SHORTEST_LINE, LONGEST_LINE);
            if (line == NONE) return false;
            int watch = readFigure(0, LAST_WATCH);
            if (watch == NONE) return false;
            int mess = readFigure(0, LAST_MESS);
            if (mess == NONE) return false;
            crew.addMan(kind, line, watch, mess);
            return true;
        }

        private int letterIn(char[] letters) {
            for (int i = 0; i < letters.length; i++) {
                if (text.has(place) && text.get(place) == letters[i]) return i;
            }
            return NONE;
        }

        private int readFigure(int least, int most) {
            int figure = text.has(place) ? text.get(place) - '0' : NONE;
            if (figure < least || figure > most) return NONE;
            place++;
            return figure;
        }
    }

    /** How a crew hangs, on which lines, and how tired: one is the deck as it is, one is for trying aside. */
    private static final class Berths {
        private static final int MOMENT = 3 * MOST_MEN;

        private Crew crew;
        private final int[] hooks = new int[MOST_MEN];
        private final int[] holders = new int[MOST_HOOKS];
        private final int[] lines = new int[MOST_MEN];
        private final int[] tired = new int[MOST_MEN];

        Berths(Crew crew) {
            begin(crew);
        }

        void begin(Crew newCrew) {
            crew = newCrew;
            System.arraycopy(newCrew.firstLines, 0, lines, 0, MOST_MEN);
            Arrays.fill(tired, 0);
            hangByFirstPlan();
        }

        void copyFrom(Berths other) {
            crew = other.crew;
            System.arraycopy(other.hooks, 0, hooks, 0, MOST_MEN);
            System.arraycopy(other.holders, 0, holders, 0, MOST_HOOKS);
            System.arraycopy(other.lines, 0, lines, 0, MOST_MEN);
            System.arraycopy(other.tired, 0, tired, 0, MOST_MEN);
        }

        int manDetail(int m, int what) {
            switch (what) {
                case 0: return crew.kinds[m];
                case 1: return lines[m];
                case 2: return crew.watches[m];
                case 3: return crew.messes[m];
                case 4: return hooks[m];
                default: return tired[m];
            }
        }

        int hookDetail(int h, int what) {
            return what == 0 ? crew.places[h] : holders[h];
        }

        int tiredTogether() {
            int together = 0;
            for (int m = 0; m < crew.men; m++) together += tired[m];
            return together;
        }

        void writeTo(int[] moments, int from) {
            if (from < 0 || from > moments.length - MOMENT) return;
            System.arraycopy(hooks, 0, moments, from, MOST_MEN);
            System.arraycopy(lines, 0, moments, from + MOST_MEN, MOST_MEN);
            System.arraycopy(tired, 0, moments, from + 2 * MOST_MEN, MOST_MEN);
        }

        void readFrom(int[] moments, int from) {
            if (from < 0 || from > moments.length - MOMENT) return;
            takeAllDown();
            for (int m = 0; m < crew.men; m++) move(m, moments[from + m]);
            System.arraycopy(moments, from + MOST_MEN, lines, 0, MOST_MEN);
            System.arraycopy(moments, from + 2 * MOST_MEN, tired, 0, MOST_MEN);
        }

        // hanging

        boolean isFree(int h) {
            return crew.hasHook(h) && holders[h] == NONE;
        }

        boolean hangs(int m) {
            return hooks[m] != NONE;
        }

        /** To a free hook, or to NONE. */
        void move(int m, int h) {
            if (crew.hasHook(hooks[m])) holders[hooks[m]] = NONE;
            hooks[m] = h;
            if (crew.hasHook(h)) holders[h] = m;
        }

        void swap(int m, int k) {
            int hook = hooks[m];
            int other = hooks[k];
            move(m, NONE);
            move(k, hook);
            move(m, other);
        }

        private void takeAllDown() {
            Arrays.fill(hooks, NONE);
            Arrays.fill(holders, NONE);
        }

        boolean hangBy(Row plan) {
            takeAllDown();
            for (int m = 0; m < crew.men; m++) {
                int h = plan.get(m);
                if (!isFree(h)) return false;
                move(m, h);
            }
            return true;
        }

        void hangByFirstPlan() {
            takeAllDown();
            for (int m = 0; m < crew.men; m++) move(m, m);
        }

        /** From the last plan to the first again: how many there are is for the caller to count. */
        void hangByNextPlan() {
            int m = crew.men - 1;
            while (m >= 0 && !moveOn(m)) m--;
            for (int k = m + 1; k < crew.men; k++) moveOn(k);
        }

        private boolean moveOn(int m) {
            for (int h = Math.max(-1, hooks[m]) + 1; h < crew.hooks; h++) {
                if (isFree(h)) {
                    move(m, h);
                    return true;
                }
            }
            move(m, NONE);
            return false;
        }

        int messmatePairs() {
            int pairs = 0;
            for (int h = 0; h + 1 < crew.hooks; h++) {
                int m = holders[h];
                int k = holders[h + 1];
                if (crew.hasMan(m) && crew.hasMan(k) && crew.messes[m] == crew.messes[k]) pairs++;
            }
            return pairs;
        }

        // waking

        boolean isIn(int m, int when) {
            return hooks[m] != NONE && (when == IN_PORT || crew.watches[m] != when - WATCH_0_UP);
        }

        int howManyIn(int when) {
            int howMany = 0;
            for (int m = 0; m < crew.men; m++) {
                if (isIn(m, when)) howMany++;
            }
            return howMany;
        }

        private int bitOfWhoIsInAt(int h, int when) {
            if (!crew.hasHook(h)) return 0;
            int m = holders[h];
            return crew.hasMan(m) && isIn(m, when) ? 1 << m : 0;
        }

        int neighbourBits(int m, int when) {
            if (!hangs(m)) return 0;
            return bitOfWhoIsInAt(hooks[m] - 1, when) | bitOfWhoIsInAt(hooks[m] + 1, when);
        }

        int wakings(int m, int when) {
            if (!isIn(m, when)) return 0;
            int h = hooks[m];
            int much = crew.placeWakes(h) + wakingsFrom(h - 1, m, when) + wakingsFrom(h + 1, m, when);
            return crew.kinds[m] == LIGHT ? 2 * Math.max(0, much) : Math.max(0, much);
        }

        private int wakingsFrom(int h, int m, int when) {
            if (!crew.hasHook(h)) return 0;
            int k = holders[h];
            if (!crew.hasMan(k) || !isIn(k, when)) return 0;
            boolean heard = crew.kinds[k] == SNORER && crew.kinds[m] != DEAF;
            return Math.abs(lines[m] - lines[k]) + crew.bulk(m) + crew.bulk(k) + (heard ? SNORING_WAKES : 0);
        }

        int allWakings(int when) {
            int all = 0;
            for (int m = 0; m < crew.men; m++) all += wakings(m, when);
            return all;
        }

        int mostWakings(int when) {
            int most = 0;
            for (int m = 0; m < crew.men; m++) most = Math.max(most, wakings(m, when));
            return most;
        }

        int tire(int when) {
            int more = 0;
            for (int m = 0; m < crew.men; m++) {
                int before = tired[m];
                tired[m] = Math.min(MOST_TIRED, before + wakings(m, when));
                more += tired[m] - before;
            }
            return more;
        }

        // getting up

        int inTheWayOf(int m, int when) {
            int beside = neighbourBits(m, when);
            int much = 0;
            for (int k = 0; k < crew.men; k++) {
                if ((beside & (1 << k)) != 0) much += 1 + crew.bulk(k);
            }
            return much;
        }

        /**
         * Of two neighbours only the one that gets up later is ever in the way: it costs least if the
         * bulkier goes first. As they hang in one line, this can be had for all pairs at once, so the
         * first order is: always the first man that has no bulkier neighbour left.
         */
        int firstToGetUp(int when) {
            for (int m = 0; m < crew.men; m++) {
                if (isIn(m, when) && !hasBulkierNeighbour(m, when)) return m;
            }
            return NONE;
        }

        private boolean hasBulkierNeighbour(int m, int when) {
            int beside = neighbourBits(m, when);
            for (int k = 0; k < crew.men; k++) {
                if ((beside & (1 << k)) != 0 && crew.bulk(k) > crew.bulk(m)) return true;
            }
            return false;
        }
    }

    /** How the berths were at first and behind each deed; as a kept deck it may be missing. */
    private static final class Log {
        private final int[] moments = new int[(MOST_DEEDS + 1) * Berths.MOMENT];
        private int deeds;

        Log(int deeds) {
            this.deeds = deeds;
        }

        boolean isMissing() {
            return deeds == MISSING;
        }

        boolean hasRoomFor(int n) {
            return n <= MOST_DEEDS - deeds;
        }

        void begin(Berths berths) {
            deeds = 0;
            berths.writeTo(moments, 0);
        }

        void add(Berths berths) {
            if (!hasRoomFor(1)) return;
            deeds++;
            berths.writeTo(moments, deeds * Berths.MOMENT);
        }

        void discard() {
            deeds = MISSING;
        }

        void copyFrom(Log other) {
            deeds = other.deeds;
            System.arraycopy(other.moments, 0, moments, 0, moments.length);
        }

        void goBackTo(int n, Berths berths) {
            if (n < 0 || n > deeds) return;
            deeds = n;
            berths.readFrom(moments, n * Berths.MOMENT);
        }
    }
}
