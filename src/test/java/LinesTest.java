/** Promises 35 and 36: lines, getting up. */
public final class LinesTest {
    private static final int BAD = -1, STATE = -4, NONE = -9;
    private static final int BEYOND = 2;

    public static void main(String[] args) {
        cuts();
        cutsAtSea();
        refusesCuts();
        getsUp();
        getsUpAtSea();
        refusesGettingUp();
        Due.end();
    }

    private static void cuts() {
        HammockDeck x = Due.deck("k...m100m900m500");
        Due.asks(x, "between 1 and 5: the least", x.cut(1, 0), 1, 8);
        Due.asks(x, "beside 9", x.cut(0, 0), 9, 8);
        Due.asks(x, "beside 9", x.cut(2, 0), 9, 16);
        Due.asks(x, "aside", x.man(0, 1), 1, 1);
        Due.is("no deed", x.count(2), 0);
        HammockDeck y = Due.deck("k...m300i900m500");
        Due.asks(y, "a light one", y.cut(1, 0), 3, 6);
        HammockDeck z = Due.deck("k...i300m900m500");
        Due.asks(z, "beside a light one", z.cut(1, 0), 3, 4);
        HammockDeck u = Due.deck("k...m500m900i300");
        Due.asks(u, "beside a light one", u.cut(1, 0), 3, 4);
    }

    private static void cutsAtSea() {
        HammockDeck x = Due.deck("k...m300m900m510");
        Due.asks(x, "watch 1 up", x.cut(1, 2), 3, 0);
        Due.asks(x, "watch 0 up: whichever", x.cut(1, 1), 1, 0);
        Due.is("down", x.down(1), 1);
        Due.is("hang", x.hang(2, 1), 1);
        Due.asks(x, "nowhere: whichever", x.cut(1, 0), 1, 4);
    }

    private static void refusesCuts() {
        HammockDeck none = new HammockDeck();
        Due.is("no men", none.cut(0, 0), BAD);
        HammockDeck x = Due.deck("k..m100");
        Due.is("no such man", x.cut(1, 0), BAD);
        Due.is("no such man", x.cut(-1, 0), BAD);
        Due.is("no such when", x.cut(0, 3), BAD);
        Due.is("no such when", x.cut(0, -1), BAD);
        Due.is("asked() stays", x.asked(), 0);
    }

    private static void ordersAre(String signs, int much, int... order) {
        HammockDeck x = Due.deck(signs);
        Due.is("up: " + signs, x.up(0, 3), much);
        Due.rowIs(x, "up: " + signs, 3, order);
    }

    private static void getsUp() {
        ordersAre("k...m100m100m100", 2, 0, 1, 2);
        ordersAre("k...m100t100n100", 3, 2, 1, 0);
        ordersAre("k...t100m100t100", 2, 0, 2, 1);
        ordersAre("k...m100t100m100", 2, 1, 0, 2);
        ordersAre("k...n100n100n100", 6, 0, 1, 2);
        ordersAre("k...t100t100t100", 4, 0, 1, 2);
        ordersAre("k....s100f100i100t100", 3, 0, 1, 3, 2);
        ordersAre("k..m100n100", 1, 1, 0);
        ordersAre("k..t100n100", 2, 1, 0);
        HammockDeck x = Due.deck("k.....m100t100n100");
        Due.is("hang", x.hang(2, 4), 4);
        Due.row(x, 3, 7, 7, 7, 7, 7);
        Due.is("a hook between", x.up(0, 3), 1);
        Due.rowIs(x, "a hook between", 3, 1, 0, 2);
        Due.is("down", x.down(1), 1);
        Due.is("one nowhere", x.up(0, 3), 0);
        Due.rowIs(x, "one nowhere", 3, 0, 2);
        Due.is("aside", x.count(3), 2);
        Due.is("deeds", x.count(2), 2);
    }

    private static void getsUpAtSea() {
        HammockDeck x = Due.deck("k....m100t100n110m100");
        Due.is("watch 1 up", x.up(2, 0), 1);
        Due.rowIs(x, "watch 1 up", 0, 1, 0, 3);
        Due.is("watch 0 up", x.up(1, 0), 0);
        Due.rowIs(x, "watch 0 up", 0, 2);
        HammockDeck y = Due.deck("k..m100m100");
        Due.row(y, 0, 7, 7);
        Due.is("none in", y.up(1, 0), 0);
        Due.finds(y, "a row without places", y.at(0, 0), BEYOND);
    }

    private static void refusesGettingUp() {
        HammockDeck none = new HammockDeck();
        Due.is("no men", none.up(0, 0), STATE);
        Due.is("BAD ahead of STATE", none.up(3, 0), BAD);
        Due.is("BAD ahead of STATE", none.up(0, 6), BAD);
        HammockDeck x = Due.deck("k..m100");
        Due.is("no such when", x.up(3, 0), BAD);
        Due.is("no such when", x.up(-1, 0), BAD);
        Due.is("no such row", x.up(0, 6), BAD);
        Due.is("no such row", x.up(0, -1), BAD);
        Due.is("no such row: NONE", x.up(0, NONE), BAD);
        Due.is("no row by these", x.count(6), 0);
    }
}
