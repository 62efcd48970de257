/** Promises 40 to 46: what is told, counts, findings, the digest. */
public final class ToldTest {
    private static final int BAD = -1, STATE = -4, NONE = -9;
    private static final int NOTHING = 1, BEYOND = 2, UNLIKE = 3, NOUGHT = 4, SIZE = 5;
    private static final String DECK = "k.dlug.m100t311s402n213";

    public static void main(String[] args) {
        constants();
        toldAtFirst();
        asked();
        askedStays();
        upperAndLower();
        counts();
        finding();
        findings();
        digestOfNothing();
        digests();
        Due.end();
    }

    private static void constants() {
        Due.is("BAD", HammockDeck.BAD, -1);
        Due.is("FULL", HammockDeck.FULL, -2);
        Due.is("FINDING", HammockDeck.FINDING, -3);
        Due.is("STATE", HammockDeck.STATE, -4);
        Due.is("SPENT", HammockDeck.SPENT, -6);
        Due.is("NONE", HammockDeck.NONE, -9);
    }

    private static void toldAtFirst() {
        HammockDeck x = new HammockDeck();
        Due.is("asked() before", x.asked(), 0);
        Due.is("upper() before", x.upper(), 0);
        Due.is("lower() before", x.lower(), 1);
        Due.is("finding() before", x.finding(), 0);
        for (int f = 1; f < 6; f++) Due.is("findings() before", x.findings(f), 0);
    }

    private static void asked() {
        HammockDeck x = Due.deck(DECK);
        Due.row(x, 1, 7, 9);
        Due.asks(x, "at", x.at(1, 1), 1, 9);
        Due.asks(x, "lay", x.lay(1, 0, 5), 1, 7);
        Due.asks(x, "mean", x.mean(1), 1, 7);
        Due.asks(x, "man", x.man(1, 1), 1, 3);
        Due.asks(x, "hook", x.hook(3, 0), 1, 3);
        // by the tall one; by man 0, the snorer, the draught; by both, the ladder; by the snorer, the pump
        Due.asks(x, "all", x.all(0), 3 + (3 + 4 + 1) + (2 + 4 + 3) + (6 + 2), 4);
        Due.asks(x, "worst", x.worst(0), 2, 9);
        Due.asks(x, "by", x.by(1, 0), 2, 4);
        Due.asks(x, "calm", x.calm(0), 1, NONE);
        Due.asks(x, "mates", x.mates(), 0, 0);
        Due.asks(x, "cut", x.cut(3, 0), 4, 28 - 2 * 2);
        Due.row(x, 1);
        Due.asks(x, "fits", x.fits(1), 1, NONE);
    }

    private static void askedStays() {
        HammockDeck x = Due.deck(DECK);
        Due.row(x, 1, 77, 0, 1, 2);
        Due.asks(x, "at", x.at(1, 0), 1, 77);
        long sum = x.copy(1, 0, 1, 0, 2) + x.mark(1, 1) + x.hang(0, 6) + x.down(1) + x.change(0, 2) + x.line(0, 4)
            + x.night(0) + x.undo(1) + x.keep(0) + x.on(0) + x.neighbours(0, 0) + x.woken(0, 0) + x.best(0, 2)
            + x.fair(0, 2) + x.mixed(2) + x.judge(2, 0) + x.gain(0, 1, 0) + x.up(0, 2) + x.mid(0) + x.lots(2, 5)
            + x.upper() + x.lower() + x.count(0) + x.finding() + x.findings(1) + x.fault(0) + x.tear(2) + x.digest();
        Due.is("asked() stays, " + sum, x.asked(), 77);
        Due.is("refused", x.at(1, 4), -3);
        Due.is("refused", x.lay(0, 0, 5), -3);
        Due.is("refused", x.mean(0), -3);
        Due.is("refused", x.man(4, 0), BAD);
        Due.is("refused", x.hook(7, 0), BAD);
        Due.is("refused", x.all(3), BAD);
        Due.is("refused", x.worst(3), BAD);
        Due.is("refused", x.by(0, 3), BAD);
        Due.is("refused", x.calm(3), BAD);
        Due.is("refused", x.cut(0, 3), BAD);
        Due.is("refused", x.fits(1), -3);
        Due.is("NONE", x.by(1, 0), NONE);
        Due.is("asked() stays", x.asked(), 77);
        Due.is("deck", x.deck(0), 4);
        Due.is("asked() stays", x.asked(), 77);
        HammockDeck none = new HammockDeck();
        Due.row(none, 0, 6);
        Due.asks(none, "at", none.at(0, 0), 1, 6);
        Due.asks(none, "STATE", none.mates(), STATE, 6);
        Due.asks(none, "STATE", none.fits(0), STATE, 6);
        Due.asks(none, "NONE", none.worst(0), NONE, 6);
    }

    private static void upperAndLower() {
        HammockDeck x = Due.deck("kl..m100m910");
        Due.is("mid", x.mid(0), 1);
        Due.is("upper", x.upper(), 38);
        Due.is("lower", x.lower(), 3);
        Due.row(x, 0, 3, 4);
        Due.asks(x, "mean tells by asked() alone", x.mean(0), 1, 3);
        Due.is("refused", x.mid(3), BAD);
        Due.is("refused", x.fits(0), -3);
        Due.is("digest", x.digest(), x.digest());
        Due.is("upper() stays", x.upper(), 38);
        Due.is("lower() stays", x.lower(), 3);
        Due.row(x, 0, 0, 19);
        Due.is("fits", x.fits(0), 1);
        Due.is("upper", x.upper(), 2);
        Due.is("lower", x.lower(), 1);
    }

    private static void countsAre(HammockDeck x, int... due) {
        for (int what = 0; what < due.length; what++) Due.is("count " + what, x.count(what), due[what]);
    }

    private static void counts() {
        HammockDeck x = Due.deck(DECK);
        countsAre(x, 4, 6, 0, 4, 0, 2, 0, 1, 0);
        Due.row(x, 5, 1);
        Due.row(x, 2);
        Due.text(x, 3, "");
        Due.is("down", x.down(3), 3);
        Due.is("night", x.night(0), 3 + 8 + 5);
        Due.is("keep", x.keep(2), 2);
        countsAre(x, 4, 6, 2, 3, 16, 2, 2, 2, 1);
        Due.is("tear", x.tear(2), 1);
        Due.is("undo", x.undo(0), 2);
        Due.is("keep", x.keep(2), 0);
        Due.is("keep", x.keep(0), 0);
        countsAre(x, 4, 6, 0, 4, 0, 2, 1, 2, 2);
        Due.is("deck", x.deck(0), 4);
        countsAre(x, 4, 6, 0, 4, 0, 2, 1, 2, 0);
        Due.is("no such count", x.count(9), BAD);
        Due.is("no such count", x.count(-1), BAD);
        countsAre(new HammockDeck(), 0, 0, 0, 0, 0, 0, 0, 0, 0);
    }

    private static void finding() {
        HammockDeck x = Due.deck(DECK);
        Due.finds(x, "nothing", x.at(0, 0), NOTHING);
        Due.is("row", x.row(0, 0), 0);
        Due.is("finding() stays", x.finding(), NOTHING);
        Due.finds(x, "beyond", x.at(0, 0), BEYOND);
        Due.is("BAD", x.at(6, 0), BAD);
        Due.is("STATE", x.hang(0, 0), STATE);
        Due.is("finding() stays", x.finding(), BEYOND);
        Due.finds(x, "unlike", x.mark(0, 1), UNLIKE);
        Due.finds(x, "nought", x.mean(0), NOUGHT);
        Due.finds(x, "size", x.row(0, -1), SIZE);
        Due.is("deck", x.deck(0), 4);
        Due.is("finding() stays", x.finding(), SIZE);
    }

    private static void findings() {
        HammockDeck x = Due.deck(DECK);
        int[] times = {0, 4, 3, 2, 5, 1};
        Due.is("row", x.row(1, 0), 0);
        for (int i = 0; i < times[1]; i++) Due.finds(x, "nothing", x.tear(0), NOTHING);
        for (int i = 0; i < times[2]; i++) Due.finds(x, "beyond", x.lay(1, 0, 1), BEYOND);
        for (int i = 0; i < times[3]; i++) Due.finds(x, "unlike", x.mark(0, 3), UNLIKE);
        for (int i = 0; i < times[4]; i++) Due.finds(x, "nought", x.mean(1), NOUGHT);
        for (int i = 0; i < times[5]; i++) Due.finds(x, "size", x.judge(1, 0), SIZE);
        for (int f = 1; f < 6; f++) Due.is("findings " + f, x.findings(f), times[f]);
        Due.is("no such finding", x.findings(0), BAD);
        Due.is("no such finding", x.findings(6), BAD);
        Due.is("no such finding", x.findings(-1), BAD);
        Due.is("finding() stays", x.finding(), SIZE);
    }

    private static long digest(long... values) {
        long h = 17;
        for (long v : values) h = 31 * h + v;
        return h;
    }

    private static void digestOfNothing() {
        long due = digest(0, 0, 0, 0, 0, 0, 0, 0, 0, -1, -1, -1, -1, -1, -1, -1, -1, -1, -1, -1, -1, -1);
        Due.is("digest of nothing", new HammockDeck().digest(), due);
    }

    private static void digests() {
        HammockDeck x = Due.deck("kl.gm103n910");
        Due.is("down", x.down(0), 0);
        Due.is("keep", x.keep(1), 1);
        Due.is("line", x.line(0, 5), 1);
        Due.is("hang", x.hang(0, 2), 2);
        Due.is("night", x.night(0), 6 + 5);
        Due.row(x, 2, -7, Integer.MAX_VALUE);
        Due.row(x, 4);
        Due.text(x, 3, "a");
        Due.is("put", x.put(3, 0, 200), 1097);
        Due.is("text", x.text(0, 0), 0);
        Due.asks(x, "at", x.at(2, 0), 1, -7);
        long due = digest(2, 3, 4, 2, 11, 1, 2, 2, 1,
            2, NONE, 0, 1, 4, 0,
            0, 5, 0, 3, 2, 5, 4, 9, 1, 0, 1, 6,
            -1, 1, -1,
            -1, -1, 2, -7, Integer.MAX_VALUE, -1, 0, -1,
            0, -1, -1, 1, -56);
        Due.asks(x, "digest", x.digest(), due, -7);
        Due.is("the same again", x.digest(), due);
        Due.is("undo", x.undo(3), 1);
        Due.isTrue("another one", x.digest() != due);
    }
}
