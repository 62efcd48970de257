/** All promises: long runs of calls, each answer and all that is told compared with the Model's. */
public final class ModelTest {
    private static final int RUNS = 400, CALLS_OF_MANY_PLANS = 12;
    // 512 calls are promised; what one round makes at most must still have room
    private static final int MOST_CALLS = 512, CALLS_OF_A_ROUND = 120;
    private static final String KINDS = "mtsfni", PLACES = ".dlug";

    private long state;
    private HammockDeck x;
    private Model y;
    private String call;
    private int calls;
    private int manyPlans;

    public static void main(String[] args) {
        for (int run = 0; run < RUNS; run++) new ModelTest().run(run);
        for (int i = 0; i < 3000; i++) new ModelTest().readsText(i);
        Due.end();
    }

    /** Numbers that are the same each time the test runs. */
    private int lot(int below) {
        state = state * 6364136223846793005L + 1442695040888963407L;
        return (int) Long.remainderUnsigned(state >>> 33, below);
    }

    private int aboutTo(int most) {
        return lot(14) == 0 ? lot(2) * (most + 2) - 1 : lot(most + 1);
    }

    private void begin(int run) {
        state = run * 7919L + 17;
        x = new HammockDeck();
        y = new Model();
        calls = 0;
        for (int i = 0; i < 5; i++) lot(9);
    }

    private void same(long got, long due) {
        calls += 6;
        if (calls > MOST_CALLS) Due.wrong(call + ", the test itself goes too far: calls " + calls);
        Due.is(call, got, due);
        Due.is(call + ", asked()", x.asked(), y.asked);
        Due.is(call + ", upper()", x.upper(), y.upper);
        Due.is(call + ", lower()", x.lower(), y.lower);
        Due.is(call + ", finding()", x.finding(), y.finding);
        Due.is(call + ", digest()", x.digest(), y.digest());
    }

    private void run(int run) {
        begin(run);
        decks(run);
        for (int i = 0; calls <= MOST_CALLS - CALLS_OF_A_ROUND; i++) {
            int from = lot(8);
            call = "run " + run + ", call " + i + ": ";
            if (from == 0) onRows();
            else if (from < 4) deeds();
            else if (from < 6) wakings();
            else if (from == 6) plans();
            else told();
        }
    }

    // texts

    private String deckText(int run) {
        int hooks = 2 + lot(6);
        int men = 1 + lot(Math.min(6, hooks));
        if (run % 3 == 0) men = Math.min(6, hooks);
        StringBuilder signs = new StringBuilder(lot(2) == 0 ? "k" : " k");
        for (int h = 0; h < hooks; h++) signs.append(PLACES.charAt(lot(5)));
        for (int m = 0; m < men; m++) {
            if (lot(2) == 0) signs.append(' ');
            // few lines, watches and messes that are alike now and then: ties must be met
            signs.append(KINDS.charAt(lot(6))).append(1 + lot(run % 2 == 0 ? 9 : 3)).append(lot(2)).append(lot(3));
        }
        return signs.toString();
    }

    private void writes(int t, String signs) {
        call = "text " + signs;
        same(x.text(t, signs.length()), y.text(t, signs.length()));
        for (int i = 0; i < signs.length(); i++) {
            calls++;
            Due.is(call, x.put(t, i, signs.charAt(i)), y.put(t, i, signs.charAt(i)));
        }
    }

    private void decks(int run) {
        writes(1, deckText(run));
        call = "deck";
        same(x.deck(1), y.deck(1));
    }

    /** A deck's text with up to three signs put wrong, left out or doubled: where is the fault, and is it a deck? */
    private void readsText(int i) {
        begin(-1 - i);
        StringBuilder signs = new StringBuilder(deckText(i));
        String some = " k.dlugmtsfni0123456789x" + (char) 0 + (char) 255;
        int wrongs = lot(4);
        for (int w = 0; w < wrongs && signs.length() > 0; w++) {
            int place = lot(signs.length());
            int way = lot(5);
            if (way == 0) signs.deleteCharAt(place);
            else if (way == 1) signs.insert(place, signs.charAt(place));
            else if (way == 2) signs.insert(place, some.charAt(lot(some.length())));
            else if (way == 3) signs.setCharAt(place, some.charAt(lot(some.length())));
            else if (lot(3) == 0) signs.setLength(place);
        }
        if (signs.length() > 60) signs.setLength(60);
        writes(2, signs.toString());
        call = "fault in '" + signs + "'";
        same(x.fault(2), y.fault(2));
        same(x.deck(2), y.deck(2));
    }

    // calls

    private void onRows() {
        int r = aboutTo(5);
        int i = lot(4) == 0 ? aboutTo(40) : lot(7);
        int n = lot(4) == 0 ? aboutTo(40) : lot(7);
        switch (lot(12)) {
            case 0: call += "row"; same(x.row(r, n), y.row(r, n)); break;
            case 1: case 2: laysAny(r, i); break;
            case 3: call += "at"; same(x.at(r, i), y.at(r, i)); break;
            case 4: call += "tear"; same(x.tear(r), y.tear(r)); break;
            case 5: case 6: copiesAny(r, i, n); break;
            case 7: call += "mean"; same(x.mean(r), y.mean(r)); break;
            case 8: textsAny(i, n); break;
            case 9: call += "fault"; same(x.fault(r - 1), y.fault(r - 1)); break;
            case 10: if (lot(3) == 0) decksAny(); break;
            default: layPlan(r);
        }
    }

    private void laysAny(int r, int i) {
        int v = lot(3) == 0 ? lot(Integer.MAX_VALUE) * (1 - 2 * lot(2)) : lot(20) - 3;
        call += "lay";
        same(x.lay(r, i, v), y.lay(r, i, v));
    }

    private void copiesAny(int r, int i, int n) {
        int to = lot(2) == 0 ? r : aboutTo(5);
        int j = lot(6);
        int from = lot(3) == 0 ? i : lot(4);
        call += "copy";
        same(x.copy(r, from, to, j, n), y.copy(r, from, to, j, n));
    }

    private void textsAny(int i, int n) {
        int t = aboutTo(3);
        int v = lot(600) - 300;
        call += "text, put";
        if (lot(2) == 0) same(x.text(t, n), y.text(t, n));
        same(x.put(t, i, v), y.put(t, i, v));
    }

    private void decksAny() {
        int t = aboutTo(3);
        String at = call;
        if (lot(2) == 0) writes(Math.max(0, Math.min(3, t)), deckText(lot(9)));
        call = at + "deck";
        same(x.deck(t), y.deck(t));
    }

    private void layPlan(int r) {
        int n = y.men.size();
        call += "a plan";
        same(x.row(r, n), y.row(r, n));
        for (int m = 0; m < n; m++) {
            int h = lot(9) == 0 ? lot(9) - 1 : (m + r + 6) % Math.max(1, y.places.length());
            same(x.lay(r, m, h), y.lay(r, m, h));
        }
        int when = aboutTo(2);
        same(x.judge(r, when), y.judge(r, when));
    }

    private void deeds() {
        int m = aboutTo(y.men.size() - 1);
        int k = aboutTo(y.men.size() - 1);
        int h = aboutTo(y.places.length() - 1);
        int n = 1 + lot(lot(3) == 0 ? 21 : 3);
        int v = aboutTo(9);
        int seed = lot(9) == 0 ? lot(2) * Integer.MAX_VALUE : 1 + lot(2147483646);
        int place = aboutTo(2);
        int to = lot(3) == 0 ? aboutTo(y.deeds.size()) : Math.max(0, y.deeds.size() - lot(4));
        switch (lot(13)) {
            case 0: case 1: case 2: call += "hang"; same(x.hang(m, h), y.hang(m, h)); break;
            case 3: call += "down"; same(x.down(m), y.down(m)); break;
            case 4: case 5: call += "change"; same(x.change(m, k), y.change(m, k)); break;
            case 6: case 7: call += "line"; same(x.line(m, v), y.line(m, v)); break;
            case 8: call += "night"; same(x.night(place), y.night(place)); break;
            case 9: call += "undo"; same(x.undo(to), y.undo(to)); break;
            case 10: call += "keep"; same(x.keep(place), y.keep(place)); break;
            case 11: call += "on"; same(x.on(place), y.on(place)); break;
            default: call += "lots"; same(x.lots(n, seed), y.lots(n, seed));
        }
    }

    private void wakings() {
        int m = aboutTo(y.men.size() - 1);
        int k = aboutTo(y.men.size() - 1);
        int when = aboutTo(2);
        int kind = aboutTo(5);
        switch (lot(9)) {
            case 0: call += "neighbours"; same(x.neighbours(m, when), y.neighbours(m, when)); break;
            case 1: call += "woken"; same(x.woken(m, when), y.woken(m, when)); break;
            case 2: call += "all"; same(x.all(when), y.all(when)); break;
            case 3: call += "worst"; same(x.worst(when), y.worst(when)); break;
            case 4: call += "by"; same(x.by(m, when), y.by(m, when)); break;
            case 5: call += "mark"; same(x.mark(m, kind), y.mark(m, kind)); break;
            case 6: call += "gain"; same(x.gain(m, k, when), y.gain(m, k, when)); break;
            case 7: call += "calm"; same(x.calm(when), y.calm(when)); break;
            default: call += "cut"; same(x.cut(m, when), y.cut(m, when));
        }
    }

    private void plans() {
        if (++manyPlans > CALLS_OF_MANY_PLANS) return;
        int r = aboutTo(5);
        int when = aboutTo(2);
        switch (lot(8)) {
            case 0: call += "best"; same(x.best(when, r), y.least(0, when, r)); break;
            case 1: call += "fair"; same(x.fair(when, r), y.least(1, when, r)); break;
            case 2: call += "mixed"; same(x.mixed(r), y.least(2, 1, r)); break;
            case 3: call += "mates"; same(x.mates(), y.mates()); break;
            case 4: call += "up"; same(x.up(when, r), y.up(when, r)); break;
            case 5: call += "mid"; same(x.mid(when), y.mid(when)); break;
            case 6: call += "fits"; same(x.fits(r), y.fits(r)); break;
            default: fitsABook(r);
        }
    }

    /** A book by what a plan brings: so that some plans fit. */
    private void fitsABook(int r) {
        call += "a book";
        same(x.best(0, r), y.least(0, 0, r));
        int[] due = {y.judge(r, 0), y.judge(r, 1), y.judge(r, 2)};
        int pairs = 1 + lot(4);
        same(x.row(r, 2 * pairs), y.row(r, 2 * pairs));
        for (int i = 0; i < pairs; i++) {
            int when = lot(3);
            int much = r < 0 || r > 5 ? 0 : due[when] + (lot(20) == 0 ? 1 : 0);
            same(x.lay(r, 2 * i, when), y.lay(r, 2 * i, when));
            same(x.lay(r, 2 * i + 1, much), y.lay(r, 2 * i + 1, much));
        }
        same(x.fits(r), y.fits(r));
    }

    private void told() {
        int what = aboutTo(8);
        int m = aboutTo(y.men.size() - 1);
        int h = aboutTo(y.places.length() - 1);
        int detail = aboutTo(5);
        switch (lot(4)) {
            case 0: call += "man"; same(x.man(m, detail), y.man(m, detail)); break;
            case 1: call += "hook"; same(x.hook(h, detail / 2), y.hook(h, detail / 2)); break;
            case 2: call += "count"; same(x.count(what), y.count(what)); break;
            default: call += "findings"; same(x.findings(detail), y.findings(detail));
        }
    }
}
