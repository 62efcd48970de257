/** Promises 1 to 7: a new object, rows. */
public final class RowsTest {
    private static final int BAD = -1;
    private static final int NOTHING = 1, BEYOND = 2, NOUGHT = 4, SIZE = 5;

    public static void main(String[] args) {
        newObject();
        rows();
        laysAndReads();
        tears();
        copies();
        refusesCopies();
        means();
        Due.end();
    }

    private static void newObject() {
        HammockDeck x = new HammockDeck();
        for (int what = 0; what < 9; what++) Due.is("new: count " + what, x.count(what), 0);
        for (int r = 0; r < 6; r++) Due.finds(x, "new: row " + r, x.at(r, 0), NOTHING);
        for (int t = 0; t < 4; t++) Due.finds(x, "new: text " + t, x.fault(t), NOTHING);
        for (int k = 0; k < 3; k++) Due.finds(x, "new: kept " + k, x.on(k), NOTHING);
        Due.is("new: man", x.man(0, 0), BAD);
        Due.is("new: hook", x.hook(0, 0), BAD);
    }

    private static void rows() {
        HammockDeck x = new HammockDeck();
        Due.is("row of 40", x.row(0, 40), 40);
        Due.asks(x, "last place", x.at(0, 39), 1, 0);
        Due.is("row of 41", x.row(0, 41), BAD);
        Due.is("most of all", x.row(0, Integer.MAX_VALUE), BAD);
        Due.asks(x, "still there", x.at(0, 39), 1, 0);
        Due.finds(x, "row of -1", x.row(0, -1), SIZE);
        Due.finds(x, "least of all", x.row(0, Integer.MIN_VALUE), SIZE);
        Due.is("row -1", x.row(-1, 3), BAD);
        Due.is("row 6", x.row(6, 3), BAD);
        Due.is("BAD ahead of SIZE", x.row(6, -1), BAD);
        Due.is("row 5", x.row(5, 0), 0);
        Due.finds(x, "no place in an empty one", x.at(5, 0), BEYOND);
        Due.row(x, 1, 7, 8, 9);
        Due.is("anew, shorter", x.row(1, 2), 2);
        Due.rowIs(x, "anew", 1, 0, 0);
        Due.is("anew, longer", x.row(1, 4), 4);
        Due.rowIs(x, "anew", 1, 0, 0, 0, 0);
        Due.is("rows there", x.count(6), 3);
    }

    private static void laysAndReads() {
        HammockDeck x = new HammockDeck();
        Due.finds(x, "lay: missing", x.lay(2, 0, 5), NOTHING);
        Due.finds(x, "at: missing", x.at(2, 0), NOTHING);
        Due.is("missing and beyond", x.lay(2, -1, 5), -3);
        Due.is("NOTHING ahead of BEYOND", x.finding(), NOTHING);
        Due.is("row", x.row(2, 3), 3);
        Due.asks(x, "lay", x.lay(2, 0, 5), 1, 0);
        Due.asks(x, "lay again", x.lay(2, 0, Integer.MIN_VALUE), 1, 5);
        Due.asks(x, "lay once more", x.lay(2, 0, 6), 1, Integer.MIN_VALUE);
        Due.asks(x, "lay at the end", x.lay(2, 2, Integer.MAX_VALUE), 1, 0);
        Due.finds(x, "lay: beyond", x.lay(2, 3, 5), BEYOND);
        Due.finds(x, "lay: ahead", x.lay(2, -1, 5), BEYOND);
        Due.finds(x, "at: beyond", x.at(2, 3), BEYOND);
        Due.finds(x, "at: ahead", x.at(2, -1), BEYOND);
        Due.finds(x, "at: far beyond", x.at(2, Integer.MAX_VALUE), BEYOND);
        Due.is("refused: asked() stays", x.asked(), 0);
        Due.is("lay: no such row", x.lay(6, 0, 5), BAD);
        Due.is("lay: no such row", x.lay(-1, 0, 5), BAD);
        Due.is("at: no such row", x.at(6, 0), BAD);
        Due.is("at: no such row", x.at(-1, 0), BAD);
        Due.rowIs(x, "all of it", 2, 6, 0, Integer.MAX_VALUE);
        Due.finds(x, "another row", x.at(3, 0), NOTHING);
    }

    private static void tears() {
        HammockDeck x = new HammockDeck();
        Due.finds(x, "tear: missing", x.tear(4), NOTHING);
        Due.row(x, 4, 1, 2);
        Due.row(x, 3, 3);
        Due.is("tear", x.tear(4), 1);
        Due.finds(x, "torn", x.at(4, 0), NOTHING);
        Due.finds(x, "torn twice", x.tear(4), NOTHING);
        Due.rowIs(x, "another one", 3, 3);
        Due.is("an empty one", x.row(4, 0), 0);
        Due.is("tear an empty one", x.tear(4), 1);
        Due.is("tear: no such row", x.tear(6), BAD);
        Due.is("tear: no such row", x.tear(-1), BAD);
    }

    private static void copies() {
        HammockDeck x = new HammockDeck();
        Due.row(x, 0, 1, 2, 3, 4, 5);
        Due.row(x, 1, 9, 9, 9);
        Due.is("some", x.copy(0, 1, 1, 0, 2), 1);
        Due.rowIs(x, "target", 1, 2, 3, 9);
        Due.rowIs(x, "source", 0, 1, 2, 3, 4, 5);
        Due.is("onto itself, on", x.copy(0, 0, 0, 1, 4), 1);
        Due.rowIs(x, "as if taken ahead", 0, 1, 1, 2, 3, 4);
        Due.is("onto itself, back", x.copy(0, 1, 0, 0, 4), 1);
        Due.rowIs(x, "as if taken ahead", 0, 1, 2, 3, 4, 4);
        Due.is("the end", x.copy(0, 4, 1, 2, 1), 1);
        Due.rowIs(x, "target", 1, 2, 3, 4);
        Due.is("none, behind the last places", x.copy(0, 5, 1, 3, 0), 1);
        Due.is("all", x.copy(1, 0, 0, 2, 3), 1);
        Due.rowIs(x, "all", 0, 1, 2, 2, 3, 4);
    }

    private static void refusesCopies() {
        HammockDeck x = new HammockDeck();
        Due.row(x, 0, 1, 2, 3);
        Due.row(x, 1, 4, 5);
        Due.is("no such source", x.copy(6, 0, 1, 0, 1), BAD);
        Due.is("no such source", x.copy(-1, 0, 1, 0, 1), BAD);
        Due.is("no such target", x.copy(0, 0, 6, 0, 1), BAD);
        Due.is("BAD ahead of SIZE", x.copy(0, 0, -1, 0, -1), BAD);
        Due.finds(x, "fewer than none", x.copy(0, 0, 1, 0, -1), SIZE);
        Due.finds(x, "SIZE ahead of NOTHING", x.copy(2, 0, 1, 0, -1), SIZE);
        Due.finds(x, "source missing", x.copy(2, 0, 1, 0, 1), NOTHING);
        Due.finds(x, "target missing, NOTHING ahead of BEYOND", x.copy(0, 9, 2, 0, 1), NOTHING);
        Due.finds(x, "not so many in the source", x.copy(0, 2, 1, 0, 2), BEYOND);
        Due.finds(x, "not so many in the target", x.copy(0, 0, 1, 1, 2), BEYOND);
        Due.finds(x, "ahead of the source", x.copy(0, -1, 1, 0, 1), BEYOND);
        Due.finds(x, "ahead of the target", x.copy(0, 0, 1, -1, 1), BEYOND);
        Due.finds(x, "none, ahead of the source", x.copy(0, -1, 1, 0, 0), BEYOND);
        Due.finds(x, "none, ahead of the target", x.copy(0, 0, 1, -1, 0), BEYOND);
        Due.finds(x, "none, above the source's size", x.copy(0, 4, 1, 0, 0), BEYOND);
        Due.finds(x, "none, above the target's size", x.copy(0, 0, 1, 3, 0), BEYOND);
        Due.finds(x, "numbers at their end", x.copy(0, 1, 1, 0, Integer.MAX_VALUE), BEYOND);
        Due.finds(x, "numbers at their end", x.copy(0, Integer.MAX_VALUE, 1, 0, 1), BEYOND);
        Due.finds(x, "numbers at their end", x.copy(0, 0, 1, Integer.MIN_VALUE, Integer.MAX_VALUE), BEYOND);
        Due.rowIs(x, "source", 0, 1, 2, 3);
        Due.rowIs(x, "target", 1, 4, 5);
    }

    private static void means() {
        HammockDeck x = new HammockDeck();
        Due.finds(x, "missing", x.mean(0), NOTHING);
        Due.is("row", x.row(0, 0), 0);
        Due.finds(x, "among none", x.mean(0), NOUGHT);
        Due.is("no such row", x.mean(6), BAD);
        Due.is("no such row", x.mean(-1), BAD);
        Due.row(x, 0, 1, 2, 5);
        Due.asks(x, "8 by 3", x.mean(0), 1, 2);
        Due.row(x, 0, -1, -2, -5);
        Due.asks(x, "-8 by 3, cut", x.mean(0), 1, -2);
        Due.row(x, 0, Integer.MAX_VALUE, Integer.MAX_VALUE, Integer.MAX_VALUE);
        Due.asks(x, "great ones", x.mean(0), 1, Integer.MAX_VALUE);
        Due.row(x, 0, Integer.MIN_VALUE, Integer.MIN_VALUE);
        Due.asks(x, "little ones", x.mean(0), 1, Integer.MIN_VALUE);
        Due.is("upper() stays", x.upper(), 0);
        Due.is("lower() stays", x.lower(), 1);
    }
}
