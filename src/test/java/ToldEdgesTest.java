import java.io.IOException;

/** Promises 40 to 46, sentence by sentence: what is told. */
public final class ToldEdgesTest {
    private static final int NONE = Trial.NONE;
    private static final String DECK = "k.dlug.m100t311s402n213";

    public static void main(String[] args) throws IOException {
        asked();
        askedStaysWhenRefused();
        askedStaysByOthers();
        upperAndLower();
        count();
        countOfDecks();
        finding();
        findings();
        digestBegins();
        digestOfAll();
        digestOfEach();
        digestWrapsAround();
        Sentences.end("Promise 40", "Promise 41", "Promise 42", "Promise 43", "Promise 44", "Promise 45", "Promise 46");
    }

    // asked

    private static void asked() {
        Sentences.of("Promise 40", "What the latest lay(), at(), mean(), man(), hook(), all(), worst(), by(), calm(), mates(), cut(), fits()");
        Trial x = Trial.ofDeck(DECK).row(1, 77, 9);
        // by the tall one; by man 0, the snorer, the draught; by both, the ladder; by the snorer, the pump: 3, 8, 9, 8
        String[][] calls = {{"lay(1, 0, 77)", "77", "1"}, {"at(1, 1)", "9", "1"}, {"mean(1)", "43", "1"}, {"man(1, 1)", "3", "1"},
            {"hook(3, 0)", "3", "1"},
            {"all(0)", "4", "28"}, {"worst(0)", "9", "2"}, {"by(1, 0)", "4", "2"}, {"calm(0)", "-9", "1"}, {"mates()", "0", "0"},
                {"cut(3, 0)", "24", "4"},
            {"fits(2)", "-9", "1"}};
        x.row(2);
        for (String[] call : calls) {
            x.asks(1, 77, "at(1, 0)").asks(Integer.parseInt(call[2]), Integer.parseInt(call[1]), call[0])
                .is(Integer.parseInt(call[1]), "asked()");
        }
        Sentences.of("Promise 40", "told; 0 before.");
        new Trial().is(0, "asked()").asks(0, 0, "all(0)").is(0, "asked()");
        Trial.ofDeck(DECK).is(0, "asked()");
    }

    private static void askedStaysWhenRefused() {
        Sentences.of("Promise 40", "that was not refused (nor NONE)");
        Trial x = Trial.ofDeck(DECK).row(1, 77, 0, 1).row(2).asks(1, 77, "at(1, 0)");
        for (String call : new String[] {"lay(6, 0, 5)", "at(6, 0)", "mean(6)", "man(4, 0)", "man(0, 6)", "hook(6, 0)", "hook(0, 2)",
            "all(3)", "worst(3)", "by(4, 0)",
            "by(0, 3)", "calm(3)", "cut(4, 0)", "cut(0, 3)", "fits(6)"}) x.bad(call);
        x.finds(Trial.NOTHING, "lay(0, 0, 5)").finds(Trial.BEYOND, "lay(1, 3, 5)").finds(Trial.NOTHING, "at(0, 0)")
            .finds(Trial.BEYOND, "at(1, 3)").finds(Trial.NOTHING, "mean(0)");
        x.finds(Trial.NOUGHT, "mean(2)").finds(Trial.NOTHING, "fits(0)").finds(Trial.SIZE, "fits(1)").none("by(0, 1)");
        x.is(77, "asked()");
        Trial none = new Trial().row(0, 77).asks(1, 77, "at(0, 0)").state("mates()").state("fits(0)").none("worst(0)").is(77, "asked()");
        none.asks(0, 0, "all(0)").asks(1, NONE, "calm(0)").none("worst(1)").is(NONE, "asked()");
    }

    private static void askedStaysByOthers() {
        Sentences.of("Promise 40", "What the latest");
        Trial x = Trial.ofDeck(DECK).row(1, 77, 0, 1, 2).asks(1, 77, "at(1, 0)");
        for (String call : new String[] {"copy(1, 0, 1, 0, 2)", "mark(1, 1)", "hang(0, 5)", "down(1)", "change(0, 2)", "line(0, 4)",
            "night(0)", "undo(1)", "keep(0)", "on(0)",
            "neighbours(0, 0)", "woken(0, 0)", "best(0, 2)", "fair(0, 2)", "mixed(2)", "judge(2, 0)", "gain(0, 1, 0)", "up(0, 2)",
                "mid(0)", "lots(2, 5)", "upper()", "lower()",
            "count(0)", "finding()", "findings(1)", "fault(0)", "tear(2)", "digest()", "row(2, 5)", "text(1, 5)", "put(1, 0, 7)",
                "deck(0)"}) {
            Due.isTrue(call, x.says(call) != Trial.BAD);
            Due.is("behind " + call + " asked()", x.says("asked()"), 77);
        }
    }

    // upper, lower

    private static void upperAndLower() {
        Sentences.of("Promise 41", "The upper number that was told last; 0 before.");
        new Trial().is(0, "upper()");
        Trial x = Trial.ofDeck("kl..m100m910").is(0, "upper()").row(0, 0, 19).means(38, 3, "mid(0)").is(38, "upper()").is(1, "fits(0)")
            .is(2, "upper()").is(1, "mid(1)").is(1, "upper()");
        Sentences.of("Promise 42", "Its lower number; 1 before.");
        new Trial().is(1, "lower()");
        x.means(38, 3, "mid(0)").is(3, "lower()").is(1, "fits(0)").is(1, "lower()");
        Sentences.of("Promise 42", "Its lower number");
        // refused, or a call that tells by asked() alone: they stay
        x.means(38, 3, "mid(0)").bad("mid(3)").bad("fits(6)").finds(Trial.NOTHING, "fits(1)").row(0, 3).finds(Trial.SIZE, "fits(0)")
            .row(0, 3, 3).finds(Trial.UNLIKE, "fits(0)");
        x.asks(1, 3, "mean(0)").is(2, "deck(0)").is(38, "upper()").is(3, "lower()");
        Trial none = new Trial().state("mid(0)").state("fits(0)").is(0, "upper()").is(1, "lower()");
    }

    // counts

    private static Trial countsAre(Trial x, int... due) {
        for (int what = 0; what < due.length; what++) x.is(due[what], "count(" + what + ")");
        return x;
    }

    private static void count() {
        Sentences.of("Promise 43", "0 MEN, 1 HOOKS, 2 DEEDS, 3 how many hang, 4 how TIRED all are together, 5 TALL ones (GIANTS, too), 6 ROWS, 7 TEXTS that are there, 8 kept DECKS.");
        countsAre(new Trial(), 0, 0, 0, 0, 0, 0, 0, 0, 0);
        Trial x = Trial.ofDeck(DECK);
        countsAre(x, 4, 6, 0, 4, 0, 2, 0, 1, 0);
        x.is(3, "down(3)").is(16, "night(0)").is(2, "keep(2)").is(2, "keep(0)").row(5, 1).row(2).text(3, "");
        countsAre(x, 4, 6, 2, 3, 16, 2, 2, 2, 2);
        x.is(1, "tear(2)").is(1, "tear(5)").is(2, "undo(0)").is(0, "keep(2)").is(0, "keep(1)");
        countsAre(x, 4, 6, 0, 4, 0, 2, 0, 2, 3);
        Sentences.of("Promise 43", "BAD.");
        for (String none : new String[] {"-1", "9", "10", "MIN", "MAX"}) x.bad("count(" + none + ")");
        new Trial().bad("count(9)").bad("count(-1)").is(0, "count(8)");
    }

    private static void countOfDecks() {
        Sentences.of("Promise 43", "5 TALL ones (GIANTS, too)");
        Trial x = Trial.ofDeck("k.......n100n100n100t100t100t100").is(6, "count(5)").is(0, "down(0)").is(5, "down(5)").is(6, "count(5)")
            .is(4, "count(3)").is(7, "count(1)");
        x.is(6, "count(0)").text(0, "k..m100").is(1, "deck(0)").is(0, "count(5)").is(1, "count(3)").is(0, "down(0)").is(0, "count(3)");
        Sentences.of("Promise 43", "6 ROWS, 7 TEXTS that are there, 8 kept DECKS");
        Trial y = Trial.ofDeck("k..m100");
        for (int r = 0; r < 6; r++) y.is(0, "row(" + r + ", 0)").is(r + 1, "count(6)").is(0, "row(" + r + ", 0)").is(r + 1, "count(6)");
        for (int t = 1; t < 4; t++) y.is(0, "text(" + t + ", 0)").is(t + 1, "count(7)").is(0, "text(" + t + ", 0)").is(t + 1, "count(7)");
        for (int k = 0; k < 3; k++) y.is(0, "keep(" + k + ")").is(k + 1, "count(8)").is(0, "keep(" + k + ")").is(k + 1, "count(8)")
            .is(0, "on(" + k + ")").is(k + 1, "count(8)");
        Sentences.of("Promise 43", "2 DEEDS, 3 how many hang, 4 how TIRED all are together");
        Trial.ofDeck("k..m100").deeds(60).is(60, "count(2)").is(1, "count(3)").is(0, "count(4)");
        Trial z = Trial.ofDeck("kllm100n900").is(26, "night(0)").is(26, "count(4)");
        for (int i = 0; i < 8; i++) z.says("night(0)");
        z.is(198, "count(4)").is(0, "night(0)").is(198, "count(4)").is(10, "count(2)");
        // tired ones that hang nowhere are tired
        z.is(0, "down(0)").is(198, "count(4)").is(1, "count(3)");
    }

    // findings

    private static void finding() {
        Sentences.of("Promise 44", "The latest FINDING (0 before any).");
        Trial x = new Trial().is(0, "finding()").bad("at(6, 0)").state("mates()").none("worst(0)").is(0, "finding()");
        x.finds(1, "at(0, 0)").is(1, "finding()").row(0).is(1, "finding()").finds(2, "at(0, 0)").finds(4, "mean(0)")
            .finds(5, "row(0, -1)").is(5, "finding()").bad("row(0, 41)").is(5, "finding()");
        x.deck(DECK).is(5, "finding()").finds(3, "mark(0, 1)").finds(1, "on(0)").finds(1, "on(0)").is(1, "finding()")
            .state("hang(0, 0)").is(1, "finding()");
    }

    private static void findings() {
        Sentences.of("Promise 45", "How often a FINDING (1 .. 5) was answered.");
        Trial x = Trial.ofDeck(DECK).row(1);
        int[] times = {0, 4, 3, 2, 5, 1};
        String[] calls = {"", "tear(0)", "lay(1, 0, 1)", "mark(0, 3)", "mean(1)", "judge(1, 0)"};
        for (int f = 1; f < 6; f++) x.is(0, "findings(" + f + ")");
        for (int f = 5; f > 0; f--) {
            for (int i = 0; i < times[f]; i++) x.finds(f, calls[f]).is(i + 1, "findings(" + f + ")");
        }
        for (int f = 1; f < 6; f++) x.is(times[f], "findings(" + f + ")");
        x.is(4, "deck(0)").is(4, "findings(1)");
        Trial y = new Trial();
        for (int i = 0; i < 400; i++) y.says("on(2)");
        y.is(400, "findings(1)").is(0, "findings(2)");
        Sentences.of("Promise 45", "BAD.");
        for (String none : new String[] {"0", "6", "-1", "7", "MIN", "MAX"}) y.bad("findings(" + none + ")");
    }

    // digest

    private static long digest(long... values) {
        long h = 17;
        for (long v : values) h = 31 * h + v;
        return h;
    }

    private static void digestBegins() {
        Sentences.of("Promise 46", "h = 17; then h = 31 h + v for each v");
        new Trial().is(digest(0, 0, 0, 0, 0, 0, 0, 0, 0, -1, -1, -1, -1, -1, -1, -1, -1, -1, -1, -1, -1, -1), "digest()");
        new Trial().row(0).is(digest(0, 0, 0, 0, 0, 0, 1, 0, 0, -1, -1, -1, 0, -1, -1, -1, -1, -1, -1, -1, -1, -1), "digest()");
    }

    private static Trial busy() {
        Trial x = Trial.ofDeck("kl.gm103n910").is(0, "down(0)").is(1, "keep(1)").is(1, "line(0, 5)").is(2, "hang(0, 2)")
            .is(6 + 5, "night(0)");
        return x.row(2, -7, Integer.MAX_VALUE).row(4).text(3, "a").is(1097, "put(3, 0, 200)").is(0, "text(0, 0)").asks(1, -7, "at(2, 0)");
    }

    private static void digestOfAll() {
        long due = digest(2, 3, 4, 2, 11, 1, 2, 2, 1, 2, NONE, 0, 1, 4, 0, 0, 5, 0, 3, 2, 5, 4, 9, 1, 0, 1, 6, -1, 1, -1,
            -1, -1, 2, -7, Integer.MAX_VALUE, -1, 0, -1, 0, -1, -1, 1, -56);
        Sentences.of("Promise 46", "(of a call that tells by asked(): what it tells, not the 1 that it answers; asked() stays):");
        busy().is(-7, "asked()").is(due, "digest()").is(-7, "asked()").is(due, "digest()").is(0, "upper()").is(1, "lower()")
            .is(0, "finding()");
        Sentences.of("Promise 46", "count() 0 to 8; of each HOOK hook() 0 to 1; of each MAN man() 0 to 5; of each kept DECK how many DEEDS (-1: missing); "
            + "of each ROW its size (-1: missing) and places, of each TEXT likewise.");
        busy().is(due, "digest()");
    }

    private static void digestOfEach() {
        Sentences.of("Promise 46", "of each ROW its size (-1: missing) and places, of each TEXT likewise");
        // missing, empty, with a 0, with a blank, full: each of another digest, as told
        long[] counts = {0, 0, 0, 0, 0, 0, 1, 0, 0, -1, -1, -1};
        Trial x = new Trial().is(40, "row(5, 40)").is(1, "lay(5, 39, MIN)");
        long due = digest(counts);
        for (int r = 0; r < 5; r++) due = 31 * due - 1;
        due = 31 * due + 40;
        for (int i = 0; i < 39; i++) due = 31 * due;
        due = 31 * due + Integer.MIN_VALUE;
        for (int t = 0; t < 4; t++) due = 31 * due - 1;
        x.is(due, "digest()").is(1, "tear(5)").is(new Trial().says("digest()"), "digest()");
        Trial y = new Trial().is(60, "text(3, 60)").is(1032, "put(3, 59, -128)");
        due = digest(0, 0, 0, 0, 0, 0, 0, 1, 0, -1, -1, -1, -1, -1, -1, -1, -1, -1, -1, -1, -1);
        due = 31 * due + 60;
        for (int i = 0; i < 59; i++) due = 31 * due + 32;
        y.is(31 * due - 128, "digest()");
        Sentences.of("Promise 46", "of each kept DECK how many DEEDS (-1: missing)");
        // its own deeds: not the ones that there are now
        Trial z = Trial.ofDeck("k..m100").is(0, "keep(0)").deeds(2).is(2, "keep(2)").deeds(1).is(0, "text(0, 0)");
        z.is(digest(1, 2, 3, 1, 0, 0, 0, 1, 2, 0, 0, 0, NONE, 0, 2, 0, 0, 0, 0, 0, -1, 2, -1, -1, -1, -1, -1, -1, 0, -1, -1, -1),
            "digest()");
    }

    private static void digestWrapsAround() {
        Sentences.of("Promise 46", "h = 31 h + v");
        // 22 numbers are too many for a long already: it wraps around
        java.math.BigInteger h = java.math.BigInteger.valueOf(17);
        for (int i = 0; i < 22; i++) h = h.multiply(java.math.BigInteger.valueOf(31)).add(java.math.BigInteger.valueOf(i < 9 ? 0 : -1));
        Due.isTrue("it doesn't fit a long", h.bitLength() > 63);
        new Trial().is(h.longValue(), "digest()");
    }
}
