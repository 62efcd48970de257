/** Promises 8 to 14: texts, faults, decks, men, hooks, marks. */
public final class TextsTest {
    private static final int BAD = -1, STATE = -4, NONE = -9;
    private static final int NOTHING = 1, BEYOND = 2, UNLIKE = 3, SIZE = 5;

    public static void main(String[] args) {
        texts();
        puts();
        textsWithoutFault();
        faultsInHooks();
        faultsInMen();
        faultsElsewhere();
        decks();
        decksAnew();
        men();
        hooks();
        marks();
        marksByNeighbours();
        Due.end();
    }

    private static void texts() {
        HammockDeck x = new HammockDeck();
        Due.is("text of 60", x.text(3, 60), 60);
        Due.is("its last byte", x.put(3, 59, 32), 1032);
        Due.is("text of 61", x.text(3, 61), BAD);
        Due.finds(x, "text of -1", x.text(3, -1), SIZE);
        Due.is("text 4", x.text(4, 1), BAD);
        Due.is("text -1", x.text(-1, 1), BAD);
        Due.is("BAD ahead of SIZE", x.text(4, -1), BAD);
        Due.is("text of 0", x.text(0, 0), 0);
        Due.is("there", x.count(7), 2);
        Due.is("put", x.put(3, 7, 100), 1032);
        Due.is("anew", x.text(3, 20), 20);
        Due.is("blanks again", x.put(3, 7, 100), 1032);
        Due.finds(x, "shorter now", x.put(3, 20, 100), BEYOND);
    }

    private static void puts() {
        HammockDeck x = new HammockDeck();
        Due.finds(x, "missing", x.put(0, 0, 1), NOTHING);
        Due.finds(x, "NOTHING ahead of BEYOND", x.put(0, -1, 1), NOTHING);
        Due.is("text", x.text(0, 2), 2);
        Due.is("put", x.put(0, 0, 127), 1032);
        Due.is("cut to a byte: 128", x.put(0, 0, 128), 1127);
        Due.is("is -128; cut: 255", x.put(0, 0, 255), 872);
        Due.is("is -1; cut: 256", x.put(0, 0, 256), 999);
        Due.is("is 0; cut: -129", x.put(0, 0, -129), 1000);
        Due.is("is 127", x.put(0, 0, 5), 1127);
        Due.finds(x, "beyond", x.put(0, 2, 1), BEYOND);
        Due.finds(x, "ahead", x.put(0, -1, 1), BEYOND);
        Due.is("no such text", x.put(4, 0, 1), BAD);
        Due.is("no such text", x.put(-1, 0, 1), BAD);
        Due.is("asked() stays", x.asked(), 0);
    }

    private static void faultIs(String signs, int want) {
        HammockDeck x = new HammockDeck();
        Due.text(x, 1, signs);
        Due.is("fault in '" + signs + "'", x.fault(1), want);
    }

    private static void textsWithoutFault() {
        faultIs("k..m100", NONE);
        faultIs("k.dlug.m100t911s513f202n302i401", NONE);
        faultIs("   k..   m100   t900   ", NONE);
        faultIs("kggm100t900", NONE);
        faultIs("k.......m100 m100 m100 m100 m100 m100 ", NONE);
        faultIs("k......m100m100m100m100m100m100", NONE);
    }

    private static void faultsInHooks() {
        faultIs("", 0);
        faultIs("   ", 3);
        faultIs("m", 0);
        faultIs("  K", 2);
        faultIs("k", 1);
        faultIs("k.", 2);
        faultIs("k. .", 2);
        faultIs("k .", 1);
        faultIs("k.x.", 2);
        faultIs("k.m100", 2);
        faultIs("k........", 8);
        faultIs("k.......d", 8);
        faultIs("k....... .", 9);
        faultIs("k.. .", 4);
        faultIs("k..x", 3);
        faultIs("k..k..", 3);
    }

    private static void faultsInMen() {
        faultIs("k..a100", 3);
        faultIs("k..m", 4);
        faultIs("k..m ", 4);
        faultIs("k..m0", 4);
        faultIs("k..m:", 4);
        faultIs("k..m1", 5);
        faultIs("k..m12", 5);
        faultIs("k..m1/", 5);
        faultIs("k..m11", 6);
        faultIs("k..m114", 6);
        faultIs("k..m11/", 6);
        faultIs("k..m11 3", 6);
        faultIs("k..m1000", 7);
        faultIs("k..m100t200 s", 12);
        faultIs("k..m100t200  .", 13);
        faultIs("k.......m100m100m100m100m100m100m100", 32);
        faultIs("k.......m100m100m100m100m100m100 x", 33);
        faultIs("k...m100m100m100m100", 16);
    }

    private static void faultsElsewhere() {
        faultIs("k..", 3);
        faultIs("k..   ", 6);
        HammockDeck x = new HammockDeck();
        Due.finds(x, "missing", x.fault(0), NOTHING);
        Due.is("no such text", x.fault(4), BAD);
        Due.is("no such text", x.fault(-1), BAD);
        Due.text(x, 0, "k..m100");
        Due.is("a byte below 0", x.put(0, 3, 109 + 128), 1109);
        Due.is("a byte below 0", x.fault(0), 3);
        Due.is("no deck by fault()", x.count(0), 0);
    }

    private static void decks() {
        HammockDeck x = new HammockDeck();
        Due.finds(x, "missing", x.deck(0), NOTHING);
        Due.is("no such text", x.deck(4), BAD);
        Due.is("no such text", x.deck(-1), BAD);
        Due.text(x, 2, " kdlug. i913 n801");
        Due.is("deck", x.deck(2), 2);
        Due.is("men", x.count(0), 2);
        Due.is("hooks", x.count(1), 5);
        Due.is("hang", x.count(3), 2);
        Due.asks(x, "man 1 at first", x.man(1, 4), 1, 1);
        Due.text(x, 2, "k..m1000");
        Due.is("a fault", x.deck(2), STATE);
        Due.is("men as ahead", x.count(0), 2);
        Due.is("hooks as ahead", x.count(1), 5);
        Due.asks(x, "kind as ahead", x.man(1, 0), 1, 4);
    }

    private static void decksAnew() {
        HammockDeck x = Due.deck("k.l.m100t200");
        Due.is("hang", x.hang(0, 2), 2);
        Due.is("line", x.line(1, 9), 2);
        Due.is("night", x.night(0), 21);
        Due.is("keep", x.keep(1), 3);
        Due.is("anew", x.deck(0), 2);
        Due.is("no deeds", x.count(2), 0);
        Due.is("none kept", x.count(8), 0);
        Due.finds(x, "none kept", x.on(1), NOTHING);
        Due.is("not tired", x.count(4), 0);
        Due.asks(x, "hung as at first", x.man(0, 4), 1, 0);
        Due.asks(x, "none at hook 2", x.hook(2, 1), 1, NONE);
        Due.asks(x, "the line as told", x.man(1, 1), 1, 2);
        Due.is("nothing to undo", x.undo(0), 0);
    }

    private static void men() {
        HammockDeck x = Due.deck("k.dlug.m100t911s502f213n303i412");
        int[][] due = {{0, 1, 0, 0, 0, 0}, {1, 9, 1, 1, 1, 0}, {2, 5, 0, 2, 2, 0},
            {3, 2, 1, 3, 3, 0}, {4, 3, 0, 3, 4, 0}, {5, 4, 1, 2, 5, 0}};
        for (int m = 0; m < 6; m++) {
            for (int what = 0; what < 6; what++) Due.asks(x, "man " + m + ", " + what, x.man(m, what), 1, due[m][what]);
        }
        Due.is("no such man", x.man(6, 0), BAD);
        Due.is("no such man", x.man(-1, 0), BAD);
        Due.is("nothing such", x.man(0, 6), BAD);
        Due.is("nothing such", x.man(0, -1), BAD);
        Due.is("asked() stays", x.asked(), 0);
        Due.is("down", x.down(2), 2);
        Due.asks(x, "hangs nowhere", x.man(2, 4), 1, NONE);
        Due.is("night", x.night(0) > 0 ? 1 : 0, 1);
        Due.is("man", x.man(0, 5), 1);
        Due.is("woken as tired", x.asked(), x.woken(0, 0));
    }

    private static void hooks() {
        HammockDeck x = Due.deck("k.dlug.m100t911");
        int[] places = {0, 1, 2, 3, 4, 0};
        int[] holders = {0, 1, NONE, NONE, NONE, NONE};
        for (int h = 0; h < 6; h++) {
            Due.asks(x, "place of " + h, x.hook(h, 0), 1, places[h]);
            Due.asks(x, "who at " + h, x.hook(h, 1), 1, holders[h]);
        }
        Due.is("hang", x.hang(1, 5), 5);
        Due.asks(x, "gone", x.hook(1, 1), 1, NONE);
        Due.asks(x, "come", x.hook(5, 1), 1, 1);
        Due.is("no such hook", x.hook(6, 0), BAD);
        Due.is("no such hook", x.hook(-1, 0), BAD);
        Due.is("nothing such", x.hook(0, 2), BAD);
        Due.is("nothing such", x.hook(0, -1), BAD);
        Due.is("asked() stays", x.asked(), 1);
    }

    private static void marks() {
        HammockDeck x = Due.deck("k......m100t100s100f100n100i100");
        int[] kinds = {0, 1, 2, 3, 4, 5};
        for (int m = 0; m < 6; m++) {
            for (int kind = 1; kind < 6; kind++) {
                if (kinds[m] == kind || m == 4 && kind == 1) continue;
                Due.finds(x, "man " + m + " is no " + kind, x.mark(m, kind), UNLIKE);
            }
            Due.is("kind 0", x.mark(m, 0), BAD);
        }
        Due.is("kind 6", x.mark(0, 6), BAD);
        Due.is("kind -1", x.mark(0, -1), BAD);
        Due.is("no such man", x.mark(6, 1), BAD);
        Due.is("no such man", x.mark(-1, 1), BAD);
        Due.is("tall", x.mark(1, 1), 2);
        Due.is("giant as tall", x.mark(4, 1), 2);
        Due.is("snorer: one is deaf", x.mark(2, 2), 1);
        Due.is("deaf: one snores", x.mark(3, 3), 1);
        Due.is("giant: one more is tall", x.mark(4, 4), 1);
        Due.is("light: woken by the giant", x.mark(5, 5), 2);
        Due.is("down", x.down(4), 4);
        Due.is("nowhere: no neighbours", x.mark(4, 1), 0);
        Due.is("nowhere: as many tall", x.mark(4, 4), 1);
        Due.is("light: by none", x.mark(5, 5), 0);
        Due.is("down", x.down(5), 5);
        Due.is("light: nowhere", x.mark(5, 5), 0);
    }

    private static void marksByNeighbours() {
        HammockDeck x = Due.deck("k.......s110s100f110s100n110t100");
        Due.is("snorers in port, whatever the watch", x.mark(1, 2), 1);
        Due.is("snorer at the end", x.mark(0, 2), 1);
        Due.is("deaf between two", x.mark(2, 3), 2);
        Due.is("snorer by a deaf one and a giant", x.mark(3, 2), 1);
        Due.is("giant: a tall one aside from itself", x.mark(4, 4), 1);
        Due.is("tall at an end", x.mark(5, 1), 1);
        HammockDeck y = Due.deck("k....n100n100t100n100");
        Due.is("giant: three more", y.mark(0, 4), 3);
    }
}
