import java.io.IOException;

/** Promises 1 to 7, sentence by sentence: a new object, rows. */
public final class RowsEdgesTest {
    private static final String[] NO_ROWS = {"-1", "6", "MIN", "MAX"};

    public static void main(String[] args) throws IOException {
        newObject();
        row();
        lay();
        at();
        tear();
        copies();
        copiesOntoItself();
        refusesCopies();
        refusesCopiesBeyond();
        refusesCopiesInOrder();
        means();
        refusesMeans();
        Sentences.end("Promise 1", "Promise 2", "Promise 3", "Promise 4", "Promise 5", "Promise 6", "Promise 7");
    }

    private static void newObject() {
        Sentences.of("Promise 1", "No ROWS, TEXTS, HOOKS, MEN.");
        Trial x = new Trial();
        for (int r = 0; r < 6; r++) x.finds(Trial.NOTHING, "tear(" + r + ")");
        for (int t = 0; t < 4; t++) x.finds(Trial.NOTHING, "deck(" + t + ")");
        x.bad("hook(0, 0)").bad("man(0, 0)");
        for (int what = 0; what < 9; what++) x.is(0, "count(" + what + ")");
        for (int k = 0; k < 3; k++) x.finds(Trial.NOTHING, "on(" + k + ")");
        // a new one has nothing of another
        Trial.ofDeck("k..m100").row(0, 1).is(0, "keep(0)");
        new Trial().is(0, "count(0)").is(0, "count(6)").is(0, "count(7)").is(0, "count(8)");
        // nor one beside it, whatever becomes of the other
        Trial y = new Trial();
        Trial z = Trial.ofDeck("kl.m100").row(0, 1).is(0, "keep(0)").is(3, "night(0)").finds(Trial.NOTHING, "tear(1)")
            .means(3, 2, "mid(0)");
        y.is(new Trial().says("digest()"), "digest()").is(0, "asked()").is(0, "finding()").is(0, "findings(1)").is(0, "upper()")
            .is(1, "lower()");
        y.finds(Trial.NOTHING, "on(0)").finds(Trial.NOTHING, "at(0, 0)").bad("man(0, 0)").is(5, "row(0, 5)");
        z.rowIs(0, 1).is(0, "on(0)").is(0, "count(4)");
    }

    private static void row() {
        Sentences.of("Promise 2", "A ROW is there with n ints 0: n.");
        Trial x = new Trial();
        for (int n : new int[] {0, 1, 2, 39, 40}) {
            x.is(n, "row(3, " + n + ")").finds(Trial.BEYOND, "at(3, " + n + ")");
            if (n > 0) x.asks(1, 0, "at(3, 0)").asks(1, 0, "at(3, " + (n - 1) + ")");
        }
        x.is(1, "count(6)");
        // anew: nothing is left of what was there, longer or shorter
        Trial y = new Trial().row(0, 7, 8, 9).is(3, "row(0, 3)").rowIs(0, 0, 0, 0).row(0, 7, 8, 9).is(1, "row(0, 1)").is(3, "row(0, 3)");
        y.rowIs(0, 0, 0, 0).row(0, 7, 8, 9).is(1, "tear(0)").is(3, "row(0, 3)").rowIs(0, 0, 0, 0);
        Trial z = new Trial().is(40, "row(0, 40)").is(1, "lay(0, 39, 5)").is(0, "row(0, 0)").is(40, "row(0, 40)");
        for (int i = 0; i < 40; i++) z.asks(1, 0, "at(0, " + i + ")");
        Sentences.of("Promise 2", "BAD: also n above 40;");
        Trial u = new Trial().row(0, 7, 8).is(40, "row(1, 40)").bad("row(0, 41)").bad("row(0, 61)").bad("row(0, MAX)").bad("row(1, 41)");
        for (String none : NO_ROWS) u.bad("row(" + none + ", 1)").bad("row(" + none + ", 0)");
        u.rowIs(0, 7, 8).is(2, "count(6)").bad("row(2, 41)").is(2, "count(6)").is(40, "row(5, 40)").is(40, "row(0, 40)");
        Sentences.of("Promise 2", "SIZE: below 0.");
        Trial v = new Trial().row(0, 7, 8).finds(Trial.SIZE, "row(0, -1)").finds(Trial.SIZE, "row(0, MIN)").finds(Trial.SIZE, "row(1, -1)");
        v.rowIs(0, 7, 8).is(1, "count(6)").bad("row(6, -1)").bad("row(-1, -1)").bad("row(-1, MIN)").is(0, "row(0, 0)");
    }

    private static void lay() {
        Sentences.of("Promise 3", "Place i of a ROW is v: what it was, told by asked(): 1.");
        Trial x = new Trial().row(2, 0, 0, 0).asks(1, 0, "lay(2, 0, MIN)").asks(1, Integer.MIN_VALUE, "lay(2, 0, MAX)");
        x.asks(1, Integer.MAX_VALUE, "lay(2, 0, -1)").asks(1, 0, "lay(2, 2, 5)").asks(1, -1, "lay(2, 0, -1)").rowIs(2, -1, 0, 5);
        x.is(40, "row(5, 40)").asks(1, 0, "lay(5, 39, 9)").asks(1, 9, "lay(5, 39, 8)").asks(1, 0, "lay(5, 38, 8)");
        Sentences.of("Promise 3", "BAD;");
        Trial y = new Trial().row(0, 1).row(5, 1);
        for (String none : NO_ROWS) y.bad("lay(" + none + ", 0, 5)").bad("lay(" + none + ", -1, 5)");
        y.rowIs(0, 1).rowIs(5, 1);
        Sentences.of("Promise 3", "NOTHING;");
        Trial z = new Trial().row(0, 1).finds(Trial.NOTHING, "lay(1, 0, 5)").finds(Trial.NOTHING, "lay(5, 0, 5)").is(1, "tear(0)");
        z.finds(Trial.NOTHING, "lay(0, 0, 5)").finds(Trial.NOTHING, "lay(0, -1, 5)").finds(Trial.NOTHING, "lay(0, 40, 5)");
        Sentences.of("Promise 3", "BEYOND.");
        Trial u = new Trial().row(0, 1, 2).row(1).is(40, "row(2, 40)").is(1, "lay(0, 1, 2)").is(1, "lay(0, 0, 1)");
        for (String i : new String[] {"-1", "2", "3", "39", "40", "MIN", "MAX"}) u.finds(Trial.BEYOND, "lay(0, " + i + ", 5)");
        u.finds(Trial.BEYOND, "lay(1, 0, 5)").finds(Trial.BEYOND, "lay(1, -1, 5)").finds(Trial.BEYOND, "lay(2, 40, 5)").rowIs(0, 1, 2);
    }

    private static void at() {
        Sentences.of("Promise 4", "Place i of a ROW, told by asked(): 1.");
        new Trial().row(5, 7, Integer.MIN_VALUE, Integer.MAX_VALUE).asks(1, 7, "at(5, 0)").asks(1, Integer.MIN_VALUE, "at(5, 1)")
            .asks(1, Integer.MAX_VALUE, "at(5, 2)").asks(1, 7, "at(5, 0)").is(40, "row(0, 40)").asks(1, 0, "at(0, 39)");
        Sentences.of("Promise 4", "BAD;");
        Trial x = new Trial().row(0, 1).row(5, 1);
        for (String none : NO_ROWS) x.bad("at(" + none + ", 0)").bad("at(" + none + ", -1)");
        Sentences.of("Promise 4", "NOTHING;");
        Trial y = new Trial().row(0, 1).finds(Trial.NOTHING, "at(1, 0)").finds(Trial.NOTHING, "at(5, 0)").is(1, "tear(0)");
        y.finds(Trial.NOTHING, "at(0, 0)").finds(Trial.NOTHING, "at(0, -1)").finds(Trial.NOTHING, "at(0, 40)");
        Sentences.of("Promise 4", "BEYOND.");
        Trial z = new Trial().row(0, 1, 2).row(1).is(40, "row(2, 40)").is(1, "at(0, 1)").is(1, "at(0, 0)");
        for (String i : new String[] {"-1", "2", "3", "39", "40", "MIN", "MAX"}) z.finds(Trial.BEYOND, "at(0, " + i + ")");
        z.finds(Trial.BEYOND, "at(1, 0)").finds(Trial.BEYOND, "at(1, -1)").finds(Trial.BEYOND, "at(2, 40)");
    }

    private static void tear() {
        Sentences.of("Promise 5", "A ROW is missing: 1.");
        Trial x = new Trial().row(0, 1).row(4).is(40, "row(5, 40)").is(3, "count(6)");
        x.is(1, "tear(5)").is(2, "count(6)").is(1, "tear(4)").is(1, "count(6)").rowIs(0, 1).is(1, "tear(0)").is(0, "count(6)");
        x.finds(Trial.NOTHING, "at(0, 0)").is(0, "row(0, 0)").finds(Trial.BEYOND, "at(0, 0)").is(1, "tear(0)");
        Sentences.of("Promise 5", "BAD;");
        Trial y = new Trial().row(0, 1).row(5, 1);
        for (String none : NO_ROWS) y.bad("tear(" + none + ")");
        y.rowIs(0, 1).rowIs(5, 1);
        Sentences.of("Promise 5", "NOTHING.");
        Trial z = new Trial().row(0, 1).finds(Trial.NOTHING, "tear(1)").finds(Trial.NOTHING, "tear(5)").is(1, "tear(0)")
            .finds(Trial.NOTHING, "tear(0)");
    }

    private static void copies() {
        Sentences.of("Promise 6", "n places of a ROW, from one on, come to those of another one");
        Trial x = new Trial().row(0, 1, 2, 3, 4).row(5, 9, 9, 9, 9, 9);
        x.is(1, "copy(0, 1, 5, 2, 2)").rowIs(5, 9, 9, 2, 3, 9).rowIs(0, 1, 2, 3, 4).is(1, "copy(5, 2, 0, 0, 1)").rowIs(0, 2, 2, 3, 4);
        // one; all; up to both ends; none, up to the ends; none of empty ones
        x.is(1, "copy(0, 3, 5, 4, 1)").rowIs(5, 9, 9, 2, 3, 4).is(1, "copy(0, 0, 5, 1, 4)").rowIs(5, 9, 2, 2, 3, 4);
        x.is(1, "copy(0, 0, 5, 0, 0)").is(1, "copy(0, 4, 5, 5, 0)").rowIs(5, 9, 2, 2, 3, 4).rowIs(0, 2, 2, 3, 4);
        x.row(1).row(2).is(1, "copy(1, 0, 2, 0, 0)").is(1, "copy(1, 0, 1, 0, 0)").is(1, "copy(1, 0, 0, 4, 0)").is(1, "copy(0, 4, 1, 0, 0)");
        Trial y = new Trial().is(40, "row(0, 40)").is(40, "row(1, 40)").is(1, "lay(0, 39, 7)").is(1, "lay(0, 0, 5)")
            .is(1, "copy(0, 0, 1, 0, 40)");
        y.asks(1, 7, "at(1, 39)").asks(1, 5, "at(1, 0)").asks(1, 0, "at(1, 1)");
    }

    private static void copiesOntoItself() {
        Sentences.of("Promise 6", "(perhaps itself) from one on, as if taken ahead: 1.");
        new Trial().row(0, 1, 2, 3, 4).is(1, "copy(0, 0, 0, 1, 3)").rowIs(0, 1, 1, 2, 3);
        new Trial().row(0, 1, 2, 3, 4).is(1, "copy(0, 1, 0, 0, 3)").rowIs(0, 2, 3, 4, 4);
        new Trial().row(0, 1, 2, 3, 4).is(1, "copy(0, 0, 0, 0, 4)").rowIs(0, 1, 2, 3, 4);
        new Trial().row(0, 1, 2, 3, 4).is(1, "copy(0, 0, 0, 2, 2)").rowIs(0, 1, 2, 1, 2);
        new Trial().row(0, 1, 2, 3, 4).is(1, "copy(0, 4, 0, 4, 0)").is(1, "copy(0, 0, 0, 3, 1)").rowIs(0, 1, 2, 3, 1);
    }

    private static void refusesCopies() {
        Sentences.of("Promise 6", "BAD;");
        Trial x = new Trial().row(0, 1, 2).row(5, 3, 4);
        for (String none : NO_ROWS) x.bad("copy(" + none + ", 0, 0, 0, 1)").bad("copy(0, 0, " + none + ", 0, 1)")
            .bad("copy(" + none + ", 0, 0, 0, 0)");
        x.rowIs(0, 1, 2).rowIs(5, 3, 4);
        Sentences.of("Promise 6", "SIZE: n below 0;");
        Trial y = new Trial().row(0, 1, 2).row(1, 3, 4).finds(Trial.SIZE, "copy(0, 0, 1, 0, -1)")
            .finds(Trial.SIZE, "copy(0, 0, 1, 0, MIN)");
        y.finds(Trial.SIZE, "copy(0, 2, 1, 2, -1)").finds(Trial.SIZE, "copy(0, 1, 0, 1, -1)").is(1, "copy(0, 0, 1, 0, 0)").rowIs(1, 3, 4);
        Sentences.of("Promise 6", "NOTHING: either;");
        Trial z = new Trial().row(0, 1, 2).row(1, 3, 4).finds(Trial.NOTHING, "copy(2, 0, 1, 0, 1)")
            .finds(Trial.NOTHING, "copy(0, 0, 2, 0, 1)");
        z.finds(Trial.NOTHING, "copy(2, 0, 3, 0, 1)").finds(Trial.NOTHING, "copy(2, 0, 2, 0, 0)")
            .finds(Trial.NOTHING, "copy(0, 0, 2, 0, 0)");
        z.finds(Trial.NOTHING, "copy(5, 0, 0, 0, 0)").is(1, "tear(1)").finds(Trial.NOTHING, "copy(0, 0, 1, 0, 1)")
            .finds(Trial.NOTHING, "copy(1, 0, 0, 0, 1)");
        z.is(1, "count(6)").rowIs(0, 1, 2);
    }

    private static void refusesCopiesBeyond() {
        Sentences.of("Promise 6", "BEYOND: not so many there");
        Trial x = new Trial().row(0, 1, 2, 3).row(1, 4, 5);
        for (String call : new String[] {"copy(0, 2, 1, 0, 2)", "copy(0, 0, 1, 0, 4)", "copy(0, 0, 1, 0, 3)", "copy(0, 0, 1, 1, 2)",
            "copy(1, 0, 0, 0, 3)", "copy(1, 1, 0, 0, 2)", "copy(0, 3, 1, 0, 1)", "copy(0, 0, 1, 2, 1)", "copy(0, -1, 1, 0, 1)",
            "copy(0, 0, 1, -1, 1)", "copy(0, 0, 0, 1, 3)", "copy(0, 1, 0, 0, 3)", "copy(0, 0, 1, 0, MAX)", "copy(0, 1, 1, 0, MAX)",
            "copy(0, 0, 1, 1, MAX)", "copy(0, MAX, 1, 0, 1)", "copy(0, 0, 1, MAX, 1)", "copy(0, MIN, 1, 0, 1)", "copy(0, 0, 1, MIN, 1)",
            "copy(0, MAX, 1, MAX, MAX)", "copy(0, MIN, 1, MIN, MAX)"}) x.finds(Trial.BEYOND, call);
        x.rowIs(0, 1, 2, 3).rowIs(1, 4, 5).is(1, "copy(0, 1, 1, 0, 2)").rowIs(1, 2, 3);
        Sentences.of("Promise 6", "(also with n 0, if i, j is below 0, or above its size).");
        Trial y = new Trial().row(0, 1, 2, 3).row(1, 4, 5).row(2);
        for (String call : new String[] {"copy(0, -1, 1, 0, 0)", "copy(0, 0, 1, -1, 0)", "copy(0, 4, 1, 0, 0)", "copy(0, 0, 1, 3, 0)",
            "copy(1, 3, 0, 0, 0)", "copy(2, 1, 0, 0, 0)", "copy(0, 0, 2, 1, 0)", "copy(0, MAX, 1, 0, 0)", "copy(0, 0, 1, MAX, 0)",
            "copy(0, MIN, 1, 0, 0)", "copy(0, 0, 1, MIN, 0)", "copy(0, 40, 1, 0, 0)"}) y.finds(Trial.BEYOND, call);
        y.is(1, "copy(0, 3, 1, 2, 0)").is(1, "copy(0, 0, 1, 0, 0)").is(1, "copy(2, 0, 2, 0, 0)").rowIs(0, 1, 2, 3).rowIs(1, 4, 5);
    }

    private static void refusesCopiesInOrder() {
        Sentences.of("Promise 6", "(In this order.)");
        Trial x = new Trial().row(0, 1, 2).row(1, 3, 4);
        // BAD ahead of SIZE, NOTHING, BEYOND
        x.bad("copy(6, 0, 1, 0, -1)").bad("copy(0, 0, 6, 0, -1)").bad("copy(6, 0, 2, 0, 1)").bad("copy(2, 0, 6, 0, 1)")
            .bad("copy(6, 0, 1, 9, 1)")
            .bad("copy(0, 9, -1, 0, 1)");
        // SIZE ahead of NOTHING, BEYOND
        x.finds(Trial.SIZE, "copy(2, 0, 1, 0, -1)").finds(Trial.SIZE, "copy(0, 0, 2, 0, -1)").finds(Trial.SIZE, "copy(0, 9, 1, 0, -1)")
            .finds(Trial.SIZE, "copy(0, 0, 1, -1, -1)");
        // NOTHING ahead of BEYOND
        x.finds(Trial.NOTHING, "copy(2, -1, 1, 0, 1)").finds(Trial.NOTHING, "copy(2, 0, 1, 9, 1)")
            .finds(Trial.NOTHING, "copy(0, 9, 2, 0, 1)")
            .finds(Trial.NOTHING, "copy(0, 0, 2, -1, 1)");
    }

    private static void means() {
        Sentences.of("Promise 7", "The mean of a ROW's ints, cut, told by asked(): 1.");
        Trial x = new Trial().row(0, 7).asks(1, 7, "mean(0)").row(0, 1, 2).asks(1, 1, "mean(0)").row(0, 0, 1).asks(1, 0, "mean(0)");
        x.row(0, -1, -2).asks(1, -1, "mean(0)").row(0, 0, -1).asks(1, 0, "mean(0)").row(0, -5, -5, -6).asks(1, -5, "mean(0)");
        x.row(0, 1, 1, 1).asks(1, 1, "mean(0)").row(0, -3, 3).asks(1, 0, "mean(0)").row(0, 2, 3, 3).asks(1, 2, "mean(0)");
        int most = Integer.MAX_VALUE;
        int least = Integer.MIN_VALUE;
        Trial y = new Trial().row(0, most).asks(1, most, "mean(0)").row(0, most, most).asks(1, most, "mean(0)").row(0, least, least, least)
            .asks(1, least, "mean(0)").row(0, most, least).asks(1, 0, "mean(0)").row(0, least, most, least).asks(1, -715827883, "mean(0)");
        Trial z = new Trial().is(40, "row(5, 40)");
        for (int i = 0; i < 40; i++) z.is(1, "lay(5, " + i + ", MAX)");
        z.asks(1, most, "mean(5)").is(1, "lay(5, 39, MIN)").asks(1, 2040109464, "mean(5)").is(0, "upper()").is(1, "lower()");
        y.is(0, "upper()").is(1, "lower()");
    }

    private static void refusesMeans() {
        Sentences.of("Promise 7", "BAD;");
        Trial x = new Trial().row(0, 1).row(5, 1);
        for (String none : NO_ROWS) x.bad("mean(" + none + ")");
        Sentences.of("Promise 7", "NOTHING;");
        Trial y = new Trial().row(0, 1).finds(Trial.NOTHING, "mean(1)").is(1, "tear(0)").finds(Trial.NOTHING, "mean(0)");
        Sentences.of("Promise 7", "NOUGHT.");
        y.row(0).finds(Trial.NOUGHT, "mean(0)").row(0, 0).asks(1, 0, "mean(0)").row(0, 5).is(0, "row(0, 0)").finds(Trial.NOUGHT, "mean(0)");
    }
}
