/** Promises 15 to 22: deeds, undone and kept. */
public final class DeedsTest {
    private static final int BAD = -1, FULL = -2, STATE = -4, NONE = -9;
    private static final int NOTHING = 1;

    public static void main(String[] args) {
        hangs();
        takesDown();
        changes();
        lines();
        nights();
        tiredAtMost();
        undoes();
        fullOfDeeds();
        keeps();
        keepsMany();
        Due.end();
    }

    private static void holderIs(HammockDeck x, int h, int want) {
        Due.asks(x, "who at " + h, x.hook(h, 1), 1, want);
    }

    private static void hookIs(HammockDeck x, int m, int want) {
        Due.asks(x, "hook of " + m, x.man(m, 4), 1, want);
    }

    private static void hangs() {
        HammockDeck x = Due.deck("k...m100t911");
        Due.is("hang", x.hang(0, 2), 2);
        hookIs(x, 0, 2);
        holderIs(x, 0, NONE);
        holderIs(x, 2, 0);
        Due.is("it hangs there", x.hang(0, 2), STATE);
        Due.is("another hangs there", x.hang(0, 1), STATE);
        Due.is("no such man", x.hang(2, 0), BAD);
        Due.is("no such man", x.hang(-1, 0), BAD);
        Due.is("no such hook", x.hang(0, 3), BAD);
        Due.is("no such hook", x.hang(0, -1), BAD);
        Due.is("no such hook: NONE", x.hang(0, NONE), BAD);
        Due.is("down", x.down(0), 2);
        Due.is("from nowhere", x.hang(0, 0), 0);
        holderIs(x, 0, 0);
        Due.is("deeds", x.count(2), 3);
    }

    private static void takesDown() {
        HammockDeck x = Due.deck("k...m100t911");
        Due.is("down", x.down(1), 1);
        hookIs(x, 1, NONE);
        holderIs(x, 1, NONE);
        Due.is("nowhere", x.down(1), STATE);
        Due.is("no such man", x.down(2), BAD);
        Due.is("no such man", x.down(-1), BAD);
        Due.is("hang", x.count(3), 1);
        Due.is("deeds", x.count(2), 1);
    }

    private static void changes() {
        HammockDeck x = Due.deck("k...m100t911");
        Due.is("change", x.change(0, 1), 1);
        hookIs(x, 0, 1);
        hookIs(x, 1, 0);
        holderIs(x, 0, 1);
        holderIs(x, 1, 0);
        Due.is("the same", x.change(1, 1), BAD);
        Due.is("no such man", x.change(0, 2), BAD);
        Due.is("no such man", x.change(-1, 0), BAD);
        Due.is("down", x.down(1), 0);
        Due.is("one hangs nowhere", x.change(0, 1), 1);
        hookIs(x, 0, NONE);
        hookIs(x, 1, 1);
        holderIs(x, 0, NONE);
        holderIs(x, 1, 1);
        Due.is("the other hangs nowhere", x.change(0, 1), 1);
        hookIs(x, 0, 1);
        hookIs(x, 1, NONE);
        Due.is("down", x.down(0), 1);
        Due.is("neither hangs", x.change(0, 1), STATE);
        Due.is("deeds", x.count(2), 5);
    }

    private static void lines() {
        HammockDeck x = Due.deck("k...m300t911");
        Due.is("line", x.line(0, 1), 3);
        Due.is("line", x.line(0, 9), 1);
        Due.asks(x, "it is 9", x.man(0, 1), 1, 9);
        Due.is("it is so", x.line(0, 9), STATE);
        Due.is("no such line", x.line(0, 0), BAD);
        Due.is("no such line", x.line(0, 10), BAD);
        Due.is("no such man", x.line(2, 4), BAD);
        Due.is("no such man", x.line(-1, 4), BAD);
        Due.is("down", x.down(1), 1);
        Due.is("of who hangs nowhere", x.line(1, 4), 9);
        Due.is("deeds", x.count(2), 4);
    }

    private static void nights() {
        HammockDeck none = new HammockDeck();
        Due.is("no men", none.night(0), STATE);
        Due.is("no men, no such when", none.night(3), BAD);
        HammockDeck x = Due.deck("k.lum100t310s510");
        // by lines 2, 2 and one tall: 3 for man 0; 3, 3 and 2 by the snorer, 3 by the ladder for man 1; 3 and 2 by the pump
        Due.is("in port", x.night(0), 3 + 11 + 5);
        Due.asks(x, "man 0", x.man(0, 5), 1, 3);
        Due.asks(x, "man 1", x.man(1, 5), 1, 11);
        Due.asks(x, "man 2", x.man(2, 5), 1, 5);
        Due.is("watch 0 up", x.night(1), 8 + 5);
        Due.asks(x, "man 0 is up", x.man(0, 5), 1, 3);
        Due.asks(x, "man 1", x.man(1, 5), 1, 19);
        Due.is("watch 1 up", x.night(2), 0);
        Due.is("together", x.count(4), 32);
        Due.is("no such when", x.night(-1), BAD);
        Due.is("no such when", x.night(3), BAD);
        Due.is("a night is a deed, even of 0", x.count(2), 3);
    }

    private static void tiredAtMost() {
        HammockDeck x = Due.deck("kllm100n900");
        for (int i = 0; i < 7; i++) Due.is("night", x.night(0), 26);
        Due.is("to 99", x.night(0), 16);
        Due.asks(x, "99", x.man(0, 5), 1, 99);
        Due.asks(x, "99", x.man(1, 5), 1, 99);
        Due.is("no more", x.night(0), 0);
        Due.is("a deed", x.count(2), 9);
        Due.is("undone", x.undo(7), 2);
        Due.asks(x, "91", x.man(0, 5), 1, 91);
    }

    private static void undoes() {
        HammockDeck x = Due.deck("k...m100t911");
        Due.is("hang", x.hang(0, 2), 2);
        Due.is("line", x.line(0, 4), 1);
        Due.is("night", x.night(0) > 0 ? 1 : 0, 1);
        Due.is("change", x.change(0, 1), 1);
        Due.is("down", x.down(0), 1);
        Due.is("more than there are", x.undo(6), BAD);
        Due.is("fewer than none", x.undo(-1), BAD);
        Due.is("none", x.undo(5), 0);
        Due.is("down undone", x.undo(4), 1);
        hookIs(x, 0, 1);
        Due.is("change and night undone", x.undo(2), 2);
        hookIs(x, 0, 2);
        holderIs(x, 0, NONE);
        Due.is("not tired", x.count(4), 0);
        Due.asks(x, "line 4", x.man(0, 1), 1, 4);
        Due.is("deeds", x.count(2), 2);
        Due.is("all undone", x.undo(0), 2);
        Due.asks(x, "line 1", x.man(0, 1), 1, 1);
        hookIs(x, 0, 0);
        holderIs(x, 2, NONE);
        Due.is("nothing left", x.undo(0), 0);
        Due.is("nothing at all", new HammockDeck().undo(0), 0);
        Due.is("nothing at all", new HammockDeck().undo(1), BAD);
    }

    private static void fullOfDeeds() {
        HammockDeck x = Due.deck("k...m100t911");
        for (int i = 0; i < 30; i++) {
            Due.is("down", x.down(0), 0);
            Due.is("hang", x.hang(0, 0), 0);
        }
        Due.is("60 deeds", x.count(2), 60);
        Due.is("hang", x.hang(0, 2), FULL);
        Due.is("hang: STATE ahead of FULL", x.hang(0, 0), STATE);
        Due.is("down", x.down(0), FULL);
        Due.is("change", x.change(0, 1), FULL);
        Due.is("change: BAD ahead of FULL", x.change(0, 0), BAD);
        Due.is("line", x.line(0, 2), FULL);
        Due.is("line: STATE ahead of FULL", x.line(0, 1), STATE);
        Due.is("night", x.night(0), FULL);
        Due.is("night: BAD ahead of FULL", x.night(3), BAD);
        Due.is("lots", x.lots(1, 1), FULL);
        Due.is("nothing is changed", x.count(4) + 10 * x.count(3), 20);
        Due.asks(x, "nothing is changed", x.man(0, 1), 1, 1);
        Due.is("keep", x.keep(0), 60);
        Due.is("undo", x.undo(57), 3);
        Due.is("nowhere: STATE", x.down(0), STATE);
        Due.is("lots", x.lots(3, 1), 0);
        Due.is("60 deeds", x.count(2), 60);
        Due.is("on", x.on(0), 60);
        hookIs(x, 0, 0);
        hookIs(x, 1, 1);
        holderIs(x, 1, 1);
        Due.asks(x, "line", x.man(1, 1), 1, 9);
        Due.is("on: as FULL", x.down(0), FULL);
        Due.is("undo", x.undo(59), 1);
        Due.is("neither hangs: STATE", x.down(0), STATE);
        Due.is("down, the last one", x.down(1), 1);
        Due.is("STATE ahead of FULL", x.change(0, 1), STATE);
        Due.is("STATE ahead of FULL", x.down(0), STATE);
    }

    private static void keeps() {
        HammockDeck none = new HammockDeck();
        Due.is("no men", none.keep(0), STATE);
        Due.is("no men, no such place", none.keep(3), BAD);
        Due.finds(none, "nothing kept", none.on(2), NOTHING);
        HammockDeck x = Due.deck("k...m100t911");
        Due.is("keep, no deeds", x.keep(2), 0);
        Due.is("hang", x.hang(0, 2), 2);
        Due.is("line", x.line(1, 5), 9);
        Due.is("night", x.night(0), 14 - 4);
        Due.is("keep", x.keep(0), 3);
        Due.is("kept", x.count(8), 2);
        Due.is("no such place", x.keep(3), BAD);
        Due.is("no such place", x.keep(-1), BAD);
        Due.is("no such place", x.on(3), BAD);
        Due.is("no such place", x.on(-1), BAD);
        Due.finds(x, "missing", x.on(1), NOTHING);
        Due.is("down", x.down(0), 2);
        Due.is("undone", x.undo(0), 4);
        Due.is("line", x.line(1, 8), 9);
        Due.is("on", x.on(0), 3);
        hookIs(x, 0, 2);
        holderIs(x, 0, NONE);
        Due.asks(x, "line 5", x.man(1, 1), 1, 5);
        Due.is("tired", x.count(4), 10);
        Due.is("its deeds, too", x.undo(1), 2);
        hookIs(x, 0, 2);
        Due.asks(x, "line 9", x.man(1, 1), 1, 9);
        Due.is("as kept again", x.on(0), 3);
        Due.is("tired", x.count(4), 10);
        Due.is("as at first", x.on(2), 0);
        hookIs(x, 0, 0);
        Due.is("kept", x.count(8), 2);
    }

    private static void keepsMany() {
        HammockDeck x = Due.deck("k...m100t911");
        for (int k = 0; k < 3; k++) {
            Due.is("line", x.line(0, k + 2), k + 1);
            Due.is("keep", x.keep(k), k + 1);
        }
        for (int k = 2; k >= 0; k--) {
            Due.is("on", x.on(k), k + 1);
            Due.asks(x, "line", x.man(0, 1), 1, k + 2);
        }
        Due.is("over an older one", x.keep(2), 1);
        Due.is("on", x.on(1), 2);
        Due.is("on", x.on(2), 1);
        Due.asks(x, "line", x.man(0, 1), 1, 2);
        Due.is("kept", x.count(8), 3);
    }
}
