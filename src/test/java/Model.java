import java.util.ArrayList;
import java.util.Arrays;
import java.util.List;

/**
 * The document once more, written in another way than the class: deeds are played again from the first,
 * faults are found by trying how a text could go on, orders and plans are all gone through.
 */
final class Model {
    private static final int BAD = -1, FULL = -2, FINDING = -3, STATE = -4, NONE = -9;
    private static final String KINDS = "mtsfni", PLACES = ".dlug";
    private static final String[] ENDINGS = {"", "k..m100", "..m100", ".m100", "m100", "100", "00", "0"};
    private static final String DECK = deckPattern();

    final int[][] rows = new int[6][];
    final byte[][] texts = new byte[4][];
    String places = "";
    final List<String> men = new ArrayList<>();
    List<int[]> deeds = new ArrayList<>();
    final List<List<int[]>> kept = new ArrayList<>(Arrays.asList(null, null, null));
    int[] at = {};
    int[] line = {};
    int[] tired = {};
    int asked = 0;
    long upper = 0;
    long lower = 1;
    int finding = 0;
    final int[] findings = new int[6];

    private static String deckPattern() {
        StringBuilder all = new StringBuilder("(?!)");
        for (int hooks = 2; hooks <= 7; hooks++) {
            all.append("| *k[.dlug]{").append(hooks).append("}( *[mtsfni][1-9][01][0-3]){1,").append(Math.min(6, hooks)).append("} *");
        }
        return all.toString();
    }

    private int found(int f) {
        finding = f;
        findings[f]++;
        return FINDING;
    }

    private int tells(int answer, int told) {
        asked = told;
        return answer;
    }

    private static boolean outside(int i, int most) {
        return i < 0 || i > most;
    }

    // rows, texts, decks

    int row(int r, int n) {
        if (outside(r, 5) || n > 40) return BAD;
        if (n < 0) return found(5);
        rows[r] = new int[n];
        return n;
    }

    int lay(int r, int i, int v) {
        if (outside(r, 5)) return BAD;
        if (rows[r] == null) return found(1);
        if (outside(i, rows[r].length - 1)) return found(2);
        asked = rows[r][i];
        rows[r][i] = v;
        return 1;
    }

    int at(int r, int i) {
        if (outside(r, 5)) return BAD;
        if (rows[r] == null) return found(1);
        if (outside(i, rows[r].length - 1)) return found(2);
        return tells(1, rows[r][i]);
    }

    int tear(int r) {
        if (outside(r, 5)) return BAD;
        if (rows[r] == null) return found(1);
        rows[r] = null;
        return 1;
    }

    int copy(int r, int i, int to, int j, int n) {
        if (outside(r, 5) || outside(to, 5)) return BAD;
        if (n < 0) return found(5);
        if (rows[r] == null || rows[to] == null) return found(1);
        if (i < 0 || j < 0 || (long) i + n > rows[r].length || (long) j + n > rows[to].length) return found(2);
        int[] taken = Arrays.copyOfRange(rows[r], i, i + n);
        for (int p = 0; p < n; p++) rows[to][j + p] = taken[p];
        return 1;
    }

    int mean(int r) {
        if (outside(r, 5)) return BAD;
        if (rows[r] == null) return found(1);
        if (rows[r].length == 0) return found(4);
        return tells(1, (int) (Arrays.stream(rows[r]).asLongStream().sum() / rows[r].length));
    }

    int text(int t, int n) {
        if (outside(t, 3) || n > 60) return BAD;
        if (n < 0) return found(5);
        texts[t] = new byte[n];
        Arrays.fill(texts[t], (byte) 32);
        return n;
    }

    int put(int t, int i, int v) {
        if (outside(t, 3)) return BAD;
        if (texts[t] == null) return found(1);
        if (outside(i, texts[t].length - 1)) return found(2);
        int before = texts[t][i];
        texts[t][i] = (byte) v;
        return 1000 + before;
    }

    private static String signs(byte[] text) {
        StringBuilder signs = new StringBuilder();
        for (byte b : text) signs.append((char) (b & 255));
        return signs.toString();
    }

    private static boolean canGoOn(String signs) {
        for (String ending : ENDINGS) {
            if ((signs + ending).matches(DECK)) return true;
        }
        return false;
    }

    private static int faultIn(String signs) {
        for (int i = 0; i < signs.length(); i++) {
            if (!canGoOn(signs.substring(0, i + 1))) return i;
        }
        return signs.matches(DECK) ? NONE : signs.length();
    }

    int fault(int t) {
        if (outside(t, 3)) return BAD;
        if (texts[t] == null) return found(1);
        return faultIn(signs(texts[t]));
    }

    int deck(int t) {
        if (outside(t, 3)) return BAD;
        if (texts[t] == null) return found(1);
        String signs = signs(texts[t]);
        if (faultIn(signs) != NONE) return STATE;
        String dense = signs.replace(" ", "");
        int hooks = 0;
        while (PLACES.indexOf(dense.charAt(1 + hooks)) >= 0) hooks++;
        places = dense.substring(1, 1 + hooks);
        men.clear();
        for (int i = 1 + hooks; i < dense.length(); i += 4) men.add(dense.substring(i, i + 4));
        for (int k = 0; k < 3; k++) kept.set(k, null);
        deeds.clear();
        play();
        return men.size();
    }

    /** All deeds again, from how they hung at first. */
    private void play() {
        int n = men.size();
        at = new int[n];
        line = new int[n];
        tired = new int[n];
        for (int m = 0; m < n; m++) {
            at[m] = m;
            line[m] = men.get(m).charAt(1) - '0';
        }
        for (int[] deed : deeds) play(deed);
    }

    private void play(int[] deed) {
        int a = deed[1];
        int b = deed[2];
        if (deed[0] == 0) at[a] = b;
        if (deed[0] == 1) {
            int hook = at[a];
            at[a] = at[b];
            at[b] = hook;
        }
        if (deed[0] == 2) line[a] = b;
        if (deed[0] == 3) {
            for (int m = 0; m < men.size(); m++) tired[m] = Math.min(99, tired[m] + wokenOf(m, a, at, line));
        }
    }

    private int kind(int m) {
        return KINDS.indexOf(men.get(m).charAt(0));
    }

    private int mess(int m) {
        return men.get(m).charAt(3) - '0';
    }

    int man(int m, int what) {
        if (outside(m, men.size() - 1) || outside(what, 5)) return BAD;
        return tells(1, manDetail(m, what));
    }

    private int manDetail(int m, int what) {
        return new int[] {kind(m), line[m], men.get(m).charAt(2) - '0', mess(m), at[m], tired[m]}[what];
    }

    int hook(int h, int what) {
        if (outside(h, places.length() - 1) || outside(what, 1)) return BAD;
        return tells(1, hookDetail(h, what));
    }

    private int hookDetail(int h, int what) {
        return what == 0 ? PLACES.indexOf(places.charAt(h)) : whoAt(h, at);
    }

    private static int whoAt(int h, int[] at) {
        for (int m = 0; m < at.length; m++) {
            if (h >= 0 && at[m] == h) return m;
        }
        return NONE;
    }

    int mark(int m, int kind) {
        if (outside(m, men.size() - 1) || kind < 1 || kind > 5) return BAD;
        boolean is = kind(m) == kind || kind == 1 && kind(m) == 4;
        if (!is) return found(3);
        if (kind == 5) return wokenOf(m, 0, at, line) / 2;
        int number = 0;
        for (int k = 0; k < men.size(); k++) {
            boolean beside = neighbourOf(m, k, 0, at);
            if (kind == 1 && beside) number++;
            if (kind == 2 && beside && kind(k) != 3) number++;
            if (kind == 3 && beside && kind(k) == 2) number++;
            if (kind == 4 && k != m && (kind(k) == 1 || kind(k) == 4)) number++;
        }
        return number;
    }

    // who is in, who wakes whom

    private boolean in(int m, int when, int[] hooks) {
        if (hooks[m] < 0) return false;
        char watch = men.get(m).charAt(2);
        return when == 0 || when == 1 && watch == '1' || when == 2 && watch == '0';
    }

    private boolean neighbourOf(int m, int k, int when, int[] hooks) {
        return hooks[m] >= 0 && in(k, when, hooks) && Math.abs(hooks[m] - hooks[k]) == 1;
    }

    private int wokenOf(int m, int when, int[] hooks, int[] lines) {
        if (!in(m, when, hooks)) return 0;
        int sum = 0;
        for (int k = 0; k < men.size(); k++) {
            if (!neighbourOf(m, k, when, hooks)) continue;
            sum += Math.abs(lines[m] - lines[k]);
            for (int one : new int[] {m, k}) {
                if (kind(one) == 1) sum += 1;
                if (kind(one) == 4) sum += 2;
            }
            if (kind(k) == 2 && kind(m) != 3) sum += 2;
        }
        char place = places.charAt(hooks[m]);
        if (place == 'd') sum += 1;
        if (place == 'l') sum += 3;
        if (place == 'u') sum += 2;
        if (place == 'g') sum -= 1;
        if (sum < 0) sum = 0;
        return kind(m) == 5 ? 2 * sum : sum;
    }

    private int together(int when, int[] hooks, int[] lines) {
        int sum = 0;
        for (int m = 0; m < men.size(); m++) sum += wokenOf(m, when, hooks, lines);
        return sum;
    }

    int neighbours(int m, int when) {
        if (outside(m, men.size() - 1) || outside(when, 2)) return BAD;
        int bits = 0;
        for (int k = 0; k < men.size(); k++) {
            if (neighbourOf(m, k, when, at)) bits += 1 << k;
        }
        return bits;
    }

    int woken(int m, int when) {
        if (outside(m, men.size() - 1) || outside(when, 2)) return BAD;
        return wokenOf(m, when, at, line);
    }

    int all(int when) {
        if (outside(when, 2)) return BAD;
        int many = 0;
        for (int m = 0; m < men.size(); m++) many += in(m, when, at) ? 1 : 0;
        return tells(together(when, at, line), many);
    }

    int worst(int when) {
        if (outside(when, 2)) return BAD;
        int worst = NONE;
        for (int m = men.size() - 1; m >= 0; m--) {
            if (!in(m, when, at)) continue;
            if (worst == NONE || wokenOf(m, when, at, line) >= wokenOf(worst, when, at, line)) worst = m;
        }
        return worst == NONE ? NONE : tells(worst, wokenOf(worst, when, at, line));
    }

    int by(int m, int when) {
        if (outside(m, men.size() - 1) || outside(when, 2)) return BAD;
        if (!in(m, when, at)) return NONE;
        int by = NONE;
        int least = 9999;
        for (int k = 0; k < men.size(); k++) {
            if (!neighbourOf(m, k, when, at)) continue;
            int[] without = at.clone();
            without[k] = NONE;
            int much = wokenOf(m, when, without, line);
            if (much < least) {
                by = k;
                least = much;
            }
        }
        return by == NONE ? NONE : tells(by, wokenOf(m, when, at, line) - least);
    }

    // deeds

    private int done(int answer, int... deed) {
        if (deeds.size() >= 60) return FULL;
        deeds.add(deed);
        play();
        return answer;
    }

    int hang(int m, int h) {
        if (outside(m, men.size() - 1) || outside(h, places.length() - 1)) return BAD;
        return whoAt(h, at) != NONE ? STATE : done(h, 0, m, h);
    }

    int down(int m) {
        if (outside(m, men.size() - 1)) return BAD;
        return at[m] == NONE ? STATE : done(at[m], 0, m, NONE);
    }

    int change(int m, int k) {
        if (outside(m, men.size() - 1) || outside(k, men.size() - 1) || m == k) return BAD;
        return at[m] == NONE && at[k] == NONE ? STATE : done(1, 1, m, k);
    }

    int line(int m, int v) {
        if (outside(m, men.size() - 1) || v < 1 || v > 9) return BAD;
        return line[m] == v ? STATE : done(line[m], 2, m, v);
    }

    private int tiredTogether() {
        return Arrays.stream(tired).sum();
    }

    int night(int when) {
        if (outside(when, 2)) return BAD;
        if (men.isEmpty()) return STATE;
        int before = tiredTogether();
        int answer = done(0, 3, when, 0);
        return answer < 0 ? answer : tiredTogether() - before;
    }

    int lots(int n, int seed) {
        if (n < 1 || n > 20 || seed < 1 || seed > 2147483646) return BAD;
        if (men.isEmpty()) return STATE;
        if (deeds.size() + n > 60) return FULL;
        int before = tiredTogether();
        java.math.BigInteger lot = java.math.BigInteger.valueOf(seed);
        for (int i = 0; i < n; i++) {
            lot = lot.multiply(java.math.BigInteger.valueOf(48271)).mod(java.math.BigInteger.valueOf(2147483647));
            done(0, 3, lot.shiftRight(4).mod(java.math.BigInteger.valueOf(3)).intValue(), 0);
        }
        return tiredTogether() - before;
    }

    int undo(int n) {
        if (outside(n, deeds.size())) return BAD;
        int undone = deeds.size() - n;
        deeds = new ArrayList<>(deeds.subList(0, n));
        play();
        return undone;
    }

    int keep(int k) {
        if (outside(k, 2)) return BAD;
        if (men.isEmpty()) return STATE;
        kept.set(k, new ArrayList<>(deeds));
        return deeds.size();
    }

    int on(int k) {
        if (outside(k, 2)) return BAD;
        if (kept.get(k) == null) return found(1);
        deeds = new ArrayList<>(kept.get(k));
        play();
        return deeds.size();
    }

    // plans

    private final List<int[]> plansKnown = new ArrayList<>();
    private String plansKnownFor = "";

    private List<int[]> plans() {
        String now = men.size() + " of " + places.length();
        if (!now.equals(plansKnownFor)) {
            plansKnown.clear();
            plansKnownFor = now;
            findPlans();
        }
        return new ArrayList<>(plansKnown);
    }

    private void findPlans() {
        int total = 1;
        for (int m = 0; m < men.size(); m++) total *= places.length();
        for (int number = 0; number < total; number++) {
            int[] plan = new int[men.size()];
            int rest = number;
            for (int m = men.size() - 1; m >= 0; m--) {
                plan[m] = rest % places.length();
                rest /= places.length();
            }
            if (Arrays.stream(plan).distinct().count() == plan.length) plansKnown.add(plan);
        }
    }

    private int weight(int goal, int when, int[] plan) {
        if (goal == 0) return together(when, plan, line);
        if (goal == 2) return together(1, plan, line) + together(2, plan, line);
        int most = 0;
        for (int m = 0; m < men.size(); m++) most = Math.max(most, wokenOf(m, when, plan, line));
        return most;
    }

    int least(int goal, int when, int r) {
        if (outside(when, 2) || outside(r, 5)) return BAD;
        if (men.isEmpty()) return STATE;
        int[] best = null;
        for (int[] plan : plans()) {
            if (best == null || weight(goal, when, plan) < weight(goal, when, best)) best = plan;
        }
        rows[r] = best.clone();
        return weight(goal, when, best);
    }

    int judge(int r, int when) {
        if (outside(r, 5) || outside(when, 2)) return BAD;
        if (men.isEmpty()) return STATE;
        if (rows[r] == null) return found(1);
        if (rows[r].length != men.size()) return found(5);
        boolean hooks = Arrays.stream(rows[r]).allMatch(h -> h >= 0 && h < places.length());
        if (!hooks || Arrays.stream(rows[r]).distinct().count() != men.size()) return found(3);
        return together(when, rows[r], line);
    }

    private int[] changed(int m, int k) {
        int[] hooks = at.clone();
        hooks[m] = at[k];
        hooks[k] = at[m];
        return hooks;
    }

    int gain(int m, int k, int when) {
        if (outside(m, men.size() - 1) || outside(k, men.size() - 1) || m == k || outside(when, 2)) return BAD;
        return together(when, at, line) - together(when, changed(m, k), line) + 100;
    }

    int calm(int when) {
        if (outside(when, 2)) return BAD;
        for (int pair = 0; pair < 36; pair++) {
            int m = pair / 6;
            int k = pair % 6;
            if (m >= k || k >= men.size() || !in(m, when, at) || !in(k, when, at)) continue;
            int[] then = changed(m, k);
            if (wokenOf(m, when, then, line) < wokenOf(m, when, at, line)
                && wokenOf(k, when, then, line) < wokenOf(k, when, at, line)) return tells(0, pair);
        }
        return tells(1, NONE);
    }

    private int matesBy(int[] hooks) {
        int pairs = 0;
        for (int m = 0; m < men.size(); m++) {
            for (int k = 0; k < men.size(); k++) {
                if (hooks[m] >= 0 && hooks[k] == hooks[m] + 1 && mess(m) == mess(k)) pairs++;
            }
        }
        return pairs;
    }

    int mates() {
        if (men.isEmpty()) return STATE;
        return tells(matesBy(at), plans().stream().mapToInt(this::matesBy).max().getAsInt());
    }

    int cut(int m, int when) {
        if (outside(m, men.size() - 1) || outside(when, 2)) return BAD;
        int best = 0;
        int least = 9999;
        for (int v = 9; v >= 1; v--) {
            int[] lines = line.clone();
            lines[m] = v;
            int much = together(when, at, lines);
            if (much <= least) {
                best = v;
                least = much;
            }
        }
        return tells(best, least);
    }

    // getting up: all orders

    private int leastInTheWay;
    private List<Integer> leastOrder;

    private void allOrders(int when, int[] left, List<Integer> order, int much) {
        boolean last = true;
        for (int m = 0; m < left.length; m++) {
            if (!in(m, when, left)) continue;
            last = false;
            int way = 0;
            for (int k = 0; k < left.length; k++) {
                if (neighbourOf(m, k, when, left)) way += kind(k) == 4 ? 3 : kind(k) == 1 ? 2 : 1;
            }
            int[] then = left.clone();
            then[m] = NONE;
            order.add(m);
            allOrders(when, then, order, much + way);
            order.remove(order.size() - 1);
        }
        if (last && much < leastInTheWay) {
            leastInTheWay = much;
            leastOrder = new ArrayList<>(order);
        }
    }

    int up(int when, int r) {
        if (outside(when, 2) || outside(r, 5)) return BAD;
        if (men.isEmpty()) return STATE;
        leastInTheWay = 9999;
        allOrders(when, at, new ArrayList<>(), 0);
        rows[r] = leastOrder.stream().mapToInt(Integer::intValue).toArray();
        return leastInTheWay;
    }

    // books

    int fits(int r) {
        if (outside(r, 5)) return BAD;
        if (men.isEmpty()) return STATE;
        if (rows[r] == null) return found(1);
        if (rows[r].length % 2 == 1) return found(5);
        int[] book = rows[r];
        for (int i = 0; i < book.length; i += 2) {
            if (outside(book[i], 2)) return found(3);
        }
        List<int[]> fitting = plans();
        for (int i = 0; i < book.length; i += 2) {
            int when = book[i];
            int much = book[i + 1];
            fitting.removeIf(plan -> together(when, plan, line) != much);
        }
        upper = fitting.size();
        lower = 1;
        int[] hooks = fitting.stream().mapToInt(plan -> plan[0]).distinct().toArray();
        return tells(1, hooks.length == 1 ? hooks[0] : NONE);
    }

    int mid(int when) {
        if (outside(when, 2)) return BAD;
        if (men.isEmpty()) return STATE;
        List<int[]> plans = plans();
        long sum = plans.stream().mapToLong(plan -> together(when, plan, line)).sum();
        long number = plans.size();
        for (long d = number; d >= 1; d--) {
            if (sum % d == 0 && number % d == 0) {
                upper = sum / d;
                lower = number / d;
                return 1;
            }
        }
        return 0;
    }

    // what is told

    int count(int what) {
        switch (what) {
            case 0: return men.size();
            case 1: return places.length();
            case 2: return deeds.size();
            case 3: return (int) Arrays.stream(at).filter(h -> h >= 0).count();
            case 4: return tiredTogether();
            case 5: return (int) men.stream().filter(man -> man.charAt(0) == 't' || man.charAt(0) == 'n').count();
            case 6: return (int) Arrays.stream(rows).filter(row -> row != null).count();
            case 7: return (int) Arrays.stream(texts).filter(text -> text != null).count();
            case 8: return (int) kept.stream().filter(deck -> deck != null).count();
            default: return BAD;
        }
    }

    int findings(int f) {
        return f < 1 || f > 5 ? BAD : findings[f];
    }

    long digest() {
        List<Integer> values = new ArrayList<>();
        for (int what = 0; what < 9; what++) values.add(count(what));
        for (int h = 0; h < places.length(); h++) {
            for (int what = 0; what < 2; what++) values.add(hookDetail(h, what));
        }
        for (int m = 0; m < men.size(); m++) {
            for (int what = 0; what < 6; what++) values.add(manDetail(m, what));
        }
        for (List<int[]> deck : kept) values.add(deck == null ? -1 : deck.size());
        for (int[] row : rows) {
            values.add(row == null ? -1 : row.length);
            if (row != null) for (int v : row) values.add(v);
        }
        for (byte[] text : texts) {
            values.add(text == null ? -1 : text.length);
            if (text != null) for (byte v : text) values.add((int) v);
        }
        long h = 17;
        for (int v : values) h = 31 * h + v;
        return h;
    }
}
