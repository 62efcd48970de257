import java.io.IOException;

/** Promises 8 to 14, sentence by sentence: texts, decks, men, hooks, marks. */
public final class TextsEdgesTest {
    private static final int NONE = Trial.NONE;
    private static final String[] NO_TEXTS = {"-1", "4", "MIN", "MAX"};
    private static final String SIX = "k.dlug.m100t911s502f213n303i412";

    public static void main(String[] args) throws IOException {
        text();
        put();
        refusesPuts();
        fault();
        deck();
        deckAnew();
        refusesDecks();
        man();
        hook();
        marksOfTallOnes();
        marksOfSnorersAndDeafOnes();
        marksOfGiantsAndLightOnes();
        refusesMarks();
        Sentences.end("Promise 8", "Promise 9", "Promise 10", "Promise 11", "Promise 12", "Promise 13", "Promise 14");
    }

    private static void text() {
        Sentences.of("Promise 8", "A TEXT is there with n blanks: n.");
        Trial x = new Trial();
        for (int n : new int[] {0, 1, 2, 59, 60}) {
            x.is(n, "text(3, " + n + ")").finds(Trial.BEYOND, "put(3, " + n + ", 0)");
            if (n > 1) x.is(1032, "put(3, 0, 5)").is(1032, "put(3, " + (n - 1) + ", 5)");
            x.is(n, "text(3, " + n + ")").is(n, "fault(3)").is(1, "count(7)");
        }
        // anew: blanks, whatever was there; and again when it was shorter between
        Trial y = new Trial().is(60, "text(0, 60)").is(1032, "put(0, 59, 7)").is(1032, "put(0, 0, 7)").is(2, "text(0, 2)")
            .is(60, "text(0, 60)");
        for (int i = 0; i < 60; i++) y.is(1032, "put(0, " + i + ", 32)");
        y.is(60, "fault(0)");
        Sentences.of("Promise 8", "BAD: also n above 60;");
        Trial z = new Trial().text(0, "k..m100").bad("text(0, 61)").bad("text(0, MAX)").bad("text(1, 61)");
        for (String none : NO_TEXTS) z.bad("text(" + none + ", 1)").bad("text(" + none + ", 0)");
        z.is(NONE, "fault(0)").is(1, "count(7)").is(60, "text(3, 60)").is(60, "text(0, 60)");
        Sentences.of("Promise 8", "SIZE: below 0.");
        Trial u = new Trial().text(0, "k..m100").finds(Trial.SIZE, "text(0, -1)").finds(Trial.SIZE, "text(0, MIN)")
            .finds(Trial.SIZE, "text(1, -1)");
        u.is(NONE, "fault(0)").is(1, "count(7)").bad("text(4, -1)").bad("text(-1, -1)").bad("text(-1, MIN)").is(0, "text(0, 0)");
    }

    private static void put() {
        Sentences.of("Promise 9", "Byte i of a TEXT is v, cut to a byte (-128 .. 127): what it was, and 1000 more.");
        int[][] cut = {{127, 127}, {128, -128}, {-128, -128}, {-129, 127}, {255, -1}, {256, 0}, {-1, -1}, {-256, 0}, {-257, -1}, {383, 127},
            {384, -128}, {300, 44}, {1000, -24}, {0, 0}, {1, 1}, {65535, -1}, {65536, 0}, {8388607, -1}};
        Trial x = new Trial().is(60, "text(3, 60)");
        for (int[] pair : cut) {
            for (int i : new int[] {0, 31, 59}) {
                x.says("put(3, " + i + ", " + pair[0] + ")");
                x.is(1000 + pair[1], "put(3, " + i + ", 32)");
            }
        }
        x.is(1032, "put(3, 0, MAX)").is(999, "put(3, 0, MIN)").is(1000, "put(3, 0, 9)").is(1009, "put(3, 0, 9)")
            .is(1032, "put(3, 1, 9)").is(0, "asked()");
    }

    private static void refusesPuts() {
        Sentences.of("Promise 9", "BAD;");
        Trial x = new Trial().text(0, "k..m100").text(3, "k..m100");
        for (String none : NO_TEXTS) x.bad("put(" + none + ", 0, 5)").bad("put(" + none + ", -1, 5)");
        x.is(NONE, "fault(0)").is(NONE, "fault(3)");
        Sentences.of("Promise 9", "NOTHING;");
        Trial y = new Trial().text(0, "k").finds(Trial.NOTHING, "put(1, 0, 5)").finds(Trial.NOTHING, "put(3, 0, 5)")
            .finds(Trial.NOTHING, "put(2, -1, 5)");
        y.finds(Trial.NOTHING, "put(2, 60, 5)").is(0, "text(2, 0)").finds(Trial.BEYOND, "put(2, 0, 5)");
        Sentences.of("Promise 9", "BEYOND.");
        Trial z = new Trial().text(0, "ab").is(60, "text(1, 60)").is(1097, "put(0, 0, 97)").is(1098, "put(0, 1, 98)");
        for (String i : new String[] {"-1", "2", "3", "60", "MIN", "MAX"}) z.finds(Trial.BEYOND, "put(0, " + i + ", 5)");
        z.finds(Trial.BEYOND, "put(1, 60, 5)").finds(Trial.BEYOND, "put(1, -1, 5)").is(1032, "put(1, 59, 5)").is(1097, "put(0, 0, 97)");
    }

    private static void fault() {
        Sentences.of("Promise 10", "A FAULT of a TEXT; NONE: there is none.");
        new Trial().text(0, "k..m100").text(3, "k..m1000").is(NONE, "fault(0)").is(7, "fault(3)").is(1048, "put(3, 7, 32)")
            .is(NONE, "fault(3)");
        Trial x = new Trial().text(2, "k..m100").is(NONE, "fault(2)").is(1046, "put(2, 2, 32)").is(2, "fault(2)")
            .is(1032, "put(2, 2, 46)").is(NONE, "fault(2)");
        x.is(0, "count(0)").is(0, "text(2, 0)").is(0, "fault(2)").is(60, "text(2, 60)").is(60, "fault(2)");
        // a deck that hangs is not changed, whether there is a fault or not
        Trial y = Trial.ofDeck("k..t911").is(1, "hang(0, 1)").text(1, SIX).is(NONE, "fault(1)").text(1, "kl").is(2, "fault(1)")
            .hooksAre(1).is(1, "count(2)");
        y.is(2, "count(1)").is(1, "count(0)");
        Sentences.of("Promise 10", "BAD;");
        Trial z = new Trial().text(0, "k..m100").text(3, "k..m100");
        for (String none : NO_TEXTS) z.bad("fault(" + none + ")");
        Sentences.of("Promise 10", "NOTHING.");
        new Trial().text(0, "k").finds(Trial.NOTHING, "fault(1)").finds(Trial.NOTHING, "fault(3)").text(1, "").is(0, "fault(1)");
    }

    private static void deck() {
        Sentences.of("Promise 11", "A DECK by a TEXT");
        for (int t = 0; t < 4; t++) {
            Trial x = new Trial().text(t, "kdl m913").is(1, "deck(" + t + ")").is(2, "count(1)").asks(1, 9, "man(0, 1)")
                .asks(1, 2, "hook(1, 0)");
            // the text is of no more use for it
            x.is(0, "text(" + t + ", 0)").is(1, "count(0)").asks(1, 3, "man(0, 3)").is(0, "undo(0)");
        }
        Sentences.of("Promise 11", "how many MEN.");
        new Trial().text(0, "k..m100").is(1, "deck(0)").text(0, SIX).is(6, "deck(0)").is(6, "count(0)").text(0, "k..m100t100")
            .is(2, "deck(0)").is(2, "count(0)");
    }

    private static void deckAnew() {
        Sentences.of("Promise 11", "(anew: hung as at first, no DEEDS; kept DECKS go):");
        Trial x = Trial.ofDeck("k.l.m100t200").is(0, "keep(0)").is(2, "hang(0, 2)").is(2, "line(1, 9)").is(21, "night(0)")
            .is(1, "down(1)").is(4, "keep(2)");
        x.is(2, "deck(0)").hooksAre(0, 1).tiredAre(0, 0).asks(1, 2, "man(1, 1)").is(0, "count(2)").is(0, "count(8)").is(0, "count(4)")
            .is(2, "count(3)");
        x.finds(Trial.NOTHING, "on(0)").finds(Trial.NOTHING, "on(2)").asks(1, 0, "hook(0, 1)").asks(1, NONE, "hook(2, 1)")
            .bad("undo(1)").is(0, "undo(0)");
        // 60 deeds ahead are no deeds of the new one
        Trial y = Trial.ofDeck("k..m100").deeds(60).is(1, "deck(0)").is(1, "line(0, 2)").is(1, "count(2)").is(2, "line(0, 3)");
        // fewer hooks, fewer men, as if there had never been others
        Trial z = Trial.ofDeck(SIX).text(0, "k..n100").is(1, "deck(0)").bad("man(1, 0)").bad("hook(2, 0)").is(2, "count(1)")
            .is(1, "count(5)");
        z.is(0, "neighbours(0, 0)").is(1, "hang(0, 1)").bad("hang(0, 2)").asks(1, 4, "man(0, 0)");
        // rows and texts stay; so does what was told
        Trial u = Trial.ofDeck("k.l.m100").row(3, 7).means(1, 1, "mid(0)").asks(1, 7, "at(3, 0)").is(1, "deck(0)").is(7, "asked()")
            .is(1, "upper()").rowIs(3, 7);
        u.is(1, "count(7)").is(1, "count(6)");
    }

    private static void refusesDecks() {
        Sentences.of("Promise 11", "BAD;");
        Trial x = Trial.ofDeck("k..m100").is(1, "hang(0, 1)");
        for (String none : NO_TEXTS) x.bad("deck(" + none + ")");
        Sentences.of("Promise 11", "NOTHING;");
        x.finds(Trial.NOTHING, "deck(1)").finds(Trial.NOTHING, "deck(3)").hooksAre(1);
        Sentences.of("Promise 11", "STATE: a FAULT.");
        Trial y = Trial.ofDeck("kl.n911").is(1, "hang(0, 1)").is(1, "keep(1)");
        for (String signs : new String[] {"", " ", "k", "k.", "k..", "k..m", "k..m10", "k..m1000", "k........m100", "k..m100m100m100",
            "kdm100", "x..m100"}) {
            y.text(2, signs).state("deck(2)").is(1, "count(0)").is(2, "count(1)").is(1, "count(8)");
        }
        y.hooksAre(1).asks(1, 4, "man(0, 0)").asks(1, 9, "man(0, 1)").asks(1, 2, "hook(0, 0)").is(1, "undo(0)").is(1, "on(1)");
        Sentences.of("Promise 11", "(STATE behind NOTHING.)");
        // a missing text has no fault yet; an empty one has
        new Trial().finds(Trial.NOTHING, "deck(0)").is(0, "text(0, 0)").state("deck(0)").text(0, "k..m100").is(1, "deck(0)");
    }

    private static void man() {
        Sentences.of("Promise 12", "Of a MAN: 0 the KIND, 1 the LINE, 2 the WATCH, 3 the MESS, 4 the HOOK (NONE), 5 how TIRED it is, all told by asked(): 1.");
        int[][] due = {{0, 1, 0, 0, 0}, {1, 9, 1, 1, 1}, {2, 5, 0, 2, 2}, {3, 2, 1, 3, 3}, {4, 3, 0, 3, 4}, {5, 4, 1, 2, 5}};
        Trial x = Trial.ofDeck(SIX);
        for (int m = 0; m < 6; m++) {
            for (int what = 0; what < 5; what++) x.asks(1, due[m][what], "man(" + m + ", " + what + ")");
            x.asks(1, 0, "man(" + m + ", 5)");
        }
        x.is(2, "down(2)").asks(1, NONE, "man(2, 4)").is(9, "line(1, 1)").asks(1, 1, "man(1, 1)").is(1, "change(0, 5)")
            .asks(1, 5, "man(0, 4)");
        Trial y = Trial.ofDeck("k..i100m800").is(21, "night(0)").asks(1, 14, "man(0, 5)").asks(1, 7, "man(1, 5)");
        y.is(0, "down(0)").asks(1, NONE, "man(0, 4)").asks(1, 14, "man(0, 5)");
        Sentences.of("Promise 12", "BAD.");
        Trial z = Trial.ofDeck(SIX);
        for (String none : new String[] {"-1", "6", "7", "MIN", "MAX"}) z.bad("man(" + none + ", 0)").bad("man(0, " + none + ")");
        z.bad("man(6, 6)").is(1, "man(5, 5)");
        Trial.ofDeck("k...m100t100").bad("man(2, 0)").is(1, "man(1, 0)");
        new Trial().bad("man(0, 0)");
    }

    private static void hook() {
        Sentences.of("Promise 13", "Of a HOOK: 0 the PLACE (0 plain, 1 draught, 2 ladder, 3 pump, 4 galley), 1 who hangs there (NONE), all told by asked(): 1.");
        Trial x = Trial.ofDeck("k.dlug.m100t911");
        int[] places = {0, 1, 2, 3, 4, 0};
        for (int h = 0; h < 6; h++) x.asks(1, places[h], "hook(" + h + ", 0)").asks(1, h < 2 ? h : NONE, "hook(" + h + ", 1)");
        x.is(5, "hang(0, 5)").asks(1, 0, "hook(5, 1)").asks(1, NONE, "hook(0, 1)").is(1, "down(1)").asks(1, NONE, "hook(1, 1)");
        x.is(1, "change(0, 1)").asks(1, 1, "hook(5, 1)").asks(1, 0, "hook(5, 0)").is(1, "hang(0, 1)").asks(1, 0, "hook(1, 1)");
        // who is up hangs there all the same
        Trial.ofDeck("k..m100m110").is(0, "night(1)").asks(1, 0, "hook(0, 1)").asks(1, 1, "hook(1, 1)");
        Sentences.of("Promise 13", "BAD.");
        Trial y = Trial.ofDeck("k.......m100");
        for (String none : new String[] {"-1", "7", "8", "MIN", "MAX"}) y.bad("hook(" + none + ", 0)");
        for (String none : new String[] {"-1", "2", "3", "MIN", "MAX"}) y.bad("hook(0, " + none + ")");
        y.asks(1, 0, "hook(6, 0)").asks(1, NONE, "hook(6, 1)");
        Trial.ofDeck("k..m100").bad("hook(2, 0)").bad("hook(2, 2)").is(1, "hook(1, 1)");
        new Trial().bad("hook(0, 0)");
    }

    private static void marksOfTallOnes() {
        Sentences.of("Promise 14", "What a MAN that IS of a KIND tells: a TALL one (GIANT, too) how many NEIGHBOURS it has in port,");
        Trial x = Trial.ofDeck("k.......t110m100n110t100m110n100");
        x.is(1, "mark(0, 1)").is(2, "mark(2, 1)").is(2, "mark(3, 1)").is(1, "mark(5, 1)").is(6, "hang(5, 6)").is(0, "mark(5, 1)");
        x.is(1, "down(1)").is(0, "mark(0, 1)").is(1, "mark(2, 1)").is(2, "down(2)").is(0, "mark(2, 1)").is(0, "asked()");
        // each is up by one watch: in port it is a neighbour
        Trial.ofDeck("k...m100t110m100").is(2, "mark(1, 1)");
    }

    private static void marksOfSnorersAndDeafOnes() {
        Sentences.of("Promise 14", "a SNORER how many NEIGHBOURS of it are not DEAF in port,");
        Trial x = Trial.ofDeck("k......s100m110s110f110s100f100");
        x.is(1, "mark(0, 2)").is(1, "mark(2, 2)").is(0, "mark(4, 2)").is(1, "down(1)").is(0, "mark(0, 2)").is(0, "mark(2, 2)");
        Trial.ofDeck("k...s100s110i100").is(2, "mark(1, 2)").is(1, "down(1)").is(0, "mark(1, 2)");
        Trial.ofDeck("k...t100s110n100").is(2, "mark(1, 2)");
        Sentences.of("Promise 14", "a DEAF one how many NEIGHBOURS of it are SNORERS in port,");
        Trial y = Trial.ofDeck("k......s110f100s110m100f110s100");
        y.is(2, "mark(1, 3)").is(1, "mark(4, 3)").is(5, "down(5)").is(0, "mark(4, 3)").is(1, "down(1)").is(0, "mark(1, 3)");
        Trial.ofDeck("k...f100f100t100").is(0, "mark(0, 3)").is(0, "mark(1, 3)");
    }

    private static void marksOfGiantsAndLightOnes() {
        Sentences.of("Promise 14", "a GIANT how many TALL ones there are, itself aside,");
        Trial.ofDeck("k..n100m100").is(0, "mark(0, 4)");
        Trial.ofDeck("k......n100n100t100t110n100n100").is(5, "mark(0, 4)").is(5, "mark(5, 4)").is(2, "down(2)").is(0, "down(0)")
            .is(5, "mark(5, 4)").is(5, "mark(0, 4)");
        Trial.ofDeck("k......m100n100s100f100i100t110").is(1, "mark(1, 4)");
        Sentences.of("Promise 14", "a LIGHT one half of how much it is WOKEN in port.");
        Trial x = Trial.ofDeck("k.l.n110i910n110").is(23, "mark(1, 5)").is(46, "woken(1, 0)").is(1, "down(1)").is(0, "mark(1, 5)");
        Trial.ofDeck("kg.i100m210").is(0, "mark(0, 5)");
        Trial.ofDeck("k..i100m210").is(1, "mark(0, 5)");
        Trial.ofDeck("kd.i100").is(1, "mark(0, 5)");
    }

    private static void refusesMarks() {
        Sentences.of("Promise 14", "BAD: also KIND 0;");
        Trial x = Trial.ofDeck("k......m100t100s100f100n100i100");
        for (int m = 0; m < 6; m++) x.bad("mark(" + m + ", 0)");
        for (String none : new String[] {"-1", "6", "MIN", "MAX"}) x.bad("mark(" + none + ", 1)").bad("mark(1, " + none + ")")
            .bad("mark(" + none + ", 0)");
        new Trial().bad("mark(0, 1)");
        Sentences.of("Promise 14", "UNLIKE.");
        for (int m = 0; m < 6; m++) {
            Trial y = Trial.ofDeck("k......m100t100s100f100n100i100");
            for (int kind = 1; kind < 6; kind++) {
                if (kind != m && !(m == 4 && kind == 1)) y.finds(Trial.UNLIKE, "mark(" + m + ", " + kind + ")");
            }
            if (m > 0) Due.isTrue("mark(" + m + ", " + m + ")", y.says("mark(" + m + ", " + m + ")") >= 0);
        }
        // a number that is none ahead of another kind
        x.bad("mark(6, 2)").bad("mark(0, 6)");
    }
}
