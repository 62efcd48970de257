/** Promises 37 to 39: books, means, lots. */
public final class BooksTest {
    private static final int BAD = -1, FULL = -2, STATE = -4, NONE = -9;
    private static final int NOTHING = 1, UNLIKE = 3, SIZE = 5;

    public static void main(String[] args) {
        fits();
        refusesBooks();
        mids();
        lots();
        lotsAsNights();
        refusesLots();
        Due.end();
    }

    private static void bookFits(HammockDeck x, int plans, int hook, int... book) {
        Due.row(x, 2, book);
        Due.asks(x, "fits", x.fits(2), 1, hook);
        Due.is("plans that fit", x.upper(), plans);
        Due.is("lower", x.lower(), 1);
    }

    private static void fits() {
        // in port, watch 0 up, watch 1 up: 01 19 0 3, 02 3 0 3, 10 19 3 0, 12 16 0 0, 20 3 3 0, 21 16 0 0
        HammockDeck x = Due.deck("kl..m100m910");
        Due.is("mid", x.mid(0), 1);
        Due.is("a lower number above 1", x.lower(), 3);
        bookFits(x, 6, NONE);
        bookFits(x, 2, NONE, 0, 19);
        bookFits(x, 2, 0, 2, 3);
        bookFits(x, 2, NONE, 1, 3);
        bookFits(x, 1, 0, 2, 3, 0, 3);
        bookFits(x, 1, 2, 0, 3, 1, 3);
        bookFits(x, 1, 1, 1, 3, 0, 19);
        bookFits(x, 2, NONE, 0, 16, 1, 0, 2, 0);
        bookFits(x, 2, 0, 2, 3, 2, 3, 2, 3);
        bookFits(x, 0, NONE, 2, 3, 2, 0);
        bookFits(x, 0, NONE, 0, 17);
        bookFits(x, 0, NONE, 0, -1);
        bookFits(x, 2, 0, 2, 3);
        Due.is("down", x.down(0), 0);
        bookFits(x, 2, 0, 2, 3);
        Due.asks(x, "aside", x.man(0, 4), 1, NONE);
        Due.is("line", x.line(1, 1), 9);
        bookFits(x, 4, NONE, 0, 3);
    }

    private static void refusesBooks() {
        HammockDeck none = new HammockDeck();
        Due.is("STATE ahead of NOTHING", none.fits(0), STATE);
        Due.is("BAD ahead of STATE", none.fits(6), BAD);
        HammockDeck x = Due.deck("kl..m100m910");
        Due.is("no such row", x.fits(6), BAD);
        Due.is("no such row", x.fits(-1), BAD);
        Due.finds(x, "missing", x.fits(0), NOTHING);
        Due.row(x, 0, 5);
        Due.finds(x, "SIZE ahead of UNLIKE", x.fits(0), SIZE);
        Due.row(x, 0, 1, 3, 2);
        Due.finds(x, "not by pairs", x.fits(0), SIZE);
        Due.row(x, 0, 3, 3);
        Due.finds(x, "no such when", x.fits(0), UNLIKE);
        Due.row(x, 0, -1, 3);
        Due.finds(x, "no such when", x.fits(0), UNLIKE);
        Due.row(x, 0, 0, 17, 0, 17, 3, 3);
        Due.finds(x, "no such when at the end", x.fits(0), UNLIKE);
        Due.is("upper() stays", x.upper(), 0);
        Due.is("lower() stays", x.lower(), 1);
        Due.is("asked() stays", x.asked(), 0);
    }

    private static void midIs(HammockDeck x, int when, long upper, long lower) {
        Due.is("mid", x.mid(when), 1);
        Due.is("upper", x.upper(), upper);
        Due.is("lower", x.lower(), lower);
    }

    private static void mids() {
        HammockDeck none = new HammockDeck();
        Due.is("no men", none.mid(0), STATE);
        Due.is("BAD ahead of STATE", none.mid(3), BAD);
        HammockDeck x = Due.deck("kl..m100m910");
        midIs(x, 0, 38, 3);
        midIs(x, 1, 1, 1);
        midIs(x, 2, 1, 1);
        Due.is("no such when", x.mid(3), BAD);
        Due.is("no such when", x.mid(-1), BAD);
        Due.is("upper() stays", x.upper(), 1);
        Due.is("down", x.down(0), 0);
        midIs(x, 0, 38, 3);
        Due.asks(x, "aside", x.man(0, 4), 1, NONE);
        Due.is("line", x.line(1, 1), 9);
        midIs(x, 0, 2, 1);
        midIs(Due.deck("k..m100"), 0, 0, 1);
        midIs(Due.deck("kld.m100"), 0, 4, 3);
    }

    // lots of seed 1: 1 1 0 0 0 2 1 2 2 2 ..; by each: 19 in port, 0 with watch 0 up, 3 with watch 1 up
    private static void lots() {
        int[] more = {0, 0, 19, 19, 19, 3, 0, 3, 3, 3};
        int together = 0;
        for (int n = 1; n <= 10; n++) {
            HammockDeck x = Due.deck("kl.m100m910");
            together += more[n - 1];
            Due.is("lots " + n, x.lots(n, 1), together);
            Due.is("tired", x.count(4), together);
            Due.is("deeds", x.count(2), n);
            Due.is("one undone", x.undo(n - 1), 1);
            Due.is("tired without it", x.count(4), together - more[n - 1]);
        }
    }

    private static void lotsAsNights() {
        int[] seeds = {1, 2, 15, 16, 48271, 1073741824, 2147483645, 2147483646};
        for (int seed : seeds) {
            HammockDeck x = Due.deck("kl.m100m910");
            HammockDeck y = Due.deck("kl.m100m910");
            long lot = seed;
            int together = 0;
            for (int i = 0; i < 20; i++) {
                lot = lot * 48271L % 2147483647L;
                together += y.night((int) (lot / 16 % 3));
            }
            Due.is("lots of seed " + seed, x.lots(20, seed), together);
            Due.is("the same deck", x.count(4) * 100 + x.count(2), y.count(4) * 100 + 20);
        }
    }

    private static void refusesLots() {
        HammockDeck none = new HammockDeck();
        Due.is("no men", none.lots(1, 1), STATE);
        Due.is("BAD ahead of STATE", none.lots(0, 1), BAD);
        HammockDeck x = Due.deck("kl.m100m910");
        Due.is("none", x.lots(0, 1), BAD);
        Due.is("fewer than none", x.lots(-1, 1), BAD);
        Due.is("too many", x.lots(21, 1), BAD);
        Due.is("no such seed", x.lots(1, 0), BAD);
        Due.is("no such seed", x.lots(1, -1), BAD);
        Due.is("no such seed", x.lots(1, 2147483647), BAD);
        Due.is("lots", x.lots(20, 2147483646) > 0 ? 1 : 0, 1);
        Due.is("lots", x.lots(20, 3) > 0 ? 1 : 0, 1);
        Due.is("lots", x.lots(1, 3) >= 0 ? 1 : 0, 1);
        Due.is("61 deeds", x.lots(20, 3), FULL);
        Due.is("BAD ahead of FULL", x.lots(21, 3), BAD);
        Due.is("41 deeds as ahead", x.count(2), 41);
        Due.is("60 deeds", x.lots(19, 3) >= 0 ? 1 : 0, 1);
        Due.is("60 deeds", x.count(2), 60);
        Due.is("one more", x.lots(1, 3), FULL);
    }
}
