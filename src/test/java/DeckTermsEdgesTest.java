import java.io.IOException;

/** Terms 1: rows, texts, what a deck's text may be and where its fault is, kinds, hooks, when, neighbours. */
public final class DeckTermsEdgesTest {
    private static final String TERMS = "Terms 1";
    private static final int NONE = Trial.NONE;

    public static void main(String[] args) throws IOException {
        rowsAndTexts();
        blanks();
        firstItem();
        howManyHooks();
        placeLetters();
        howManyMen();
        figures();
        faultsByLetters();
        faultsByMore();
        faultsBySize();
        kinds();
        hooks();
        when();
        neighbours();
        Sentences.end(TERMS);
    }

    private static void faultIs(int want, String signs) {
        Due.is("fault(0) of '" + signs + "'", new Trial().text(0, signs).says("fault(0)"), want);
    }

    private static void well(String signs, int men) {
        new Trial().text(0, signs).is(NONE, "fault(0)").is(men, "deck(0)").is(men, "count(0)");
    }

    private static String some(char sign, int n) {
        return String.valueOf(sign).repeat(n);
    }

    private static void rowsAndTexts() {
        Sentences.of(TERMS, "ROWS 0 .. 5 are rows of 0 to 40 ints,");
        Trial x = new Trial();
        for (int r = 0; r < 6; r++) x.is(40, "row(" + r + ", 40)").is(1, "lay(" + r + ", 39, MAX)").is(1, "lay(" + r + ", 0, MIN)");
        for (int r = 0; r < 6; r++) x.asks(1, Integer.MAX_VALUE, "at(" + r + ", 39)").asks(1, Integer.MIN_VALUE, "at(" + r + ", 0)");
        x.is(6, "count(6)").bad("row(-1, 0)").bad("row(6, 0)").bad("row(0, 41)").finds(Trial.SIZE, "row(0, -1)");
        for (int r = 0; r < 6; r++) x.is(0, "row(" + r + ", 0)").finds(Trial.BEYOND, "at(" + r + ", 0)");
        Sentences.of(TERMS, "TEXTS 0 .. 3 rows of 0 to 60 bytes,");
        Trial y = new Trial();
        for (int t = 0; t < 4; t++) y.is(60, "text(" + t + ", 60)").is(1032, "put(" + t + ", 59, 127)").is(1032, "put(" + t + ", 0, -128)");
        for (int t = 0; t < 4; t++) y.is(1127, "put(" + t + ", 59, 0)").is(872, "put(" + t + ", 0, 0)");
        y.is(4, "count(7)").bad("text(-1, 0)").bad("text(4, 0)").bad("text(0, 61)").finds(Trial.SIZE, "text(0, -1)");
        for (int t = 0; t < 4; t++) y.is(0, "text(" + t + ", 0)").finds(Trial.BEYOND, "put(" + t + ", 0, 0)");
        Sentences.of(TERMS, "or missing (at first).");
        Trial z = new Trial().is(0, "count(6)").is(0, "count(7)");
        for (int r = 0; r < 6; r++) z.finds(Trial.NOTHING, "at(" + r + ", 0)");
        for (int t = 0; t < 4; t++) z.finds(Trial.NOTHING, "put(" + t + ", 0, 0)");
        Sentences.of(TERMS, "A DECK (without HOOKS, MEN at first)");
        new Trial().is(0, "count(0)").is(0, "count(1)").bad("hook(0, 0)").bad("man(0, 0)").asks(0, 0, "all(0)").none("worst(0)");
    }

    private static void blanks() {
        Sentences.of(TERMS, "is a TEXT: blanks (32) ahead, between, behind as many as wanted,");
        well("k..m100t911", 2);
        well(" k..m100t911", 2);
        well("k.. m100t911", 2);
        well("k..m100 t911", 2);
        well("k..m100t911 ", 2);
        well(" k.. m100 t911 ", 2);
        well(some(' ', 53) + "k..m100", 1);
        well("k.." + some(' ', 53) + "m100", 1);
        well("k..m100" + some(' ', 53), 1);
        well("k..m100" + some(' ', 49) + "t911", 2);
        well("k.......m100m100m100m100m100m100" + some(' ', 28), 6);
        well(some(' ', 28) + "k.......m100m100m100m100m100m100", 6);
        // what only looks like a blank is none
        for (int sign : new int[] {0, 9, 10, 13, 31, 33, 160, 224}) {
            String other = String.valueOf((char) sign);
            faultIs(0, other + "k..m100");
            faultIs(3, "k.." + other + "m100");
            faultIs(7, "k..m100" + other);
        }
        Sentences.of(TERMS, "none within items.");
        faultIs(1, "k ..m100");
        faultIs(2, "k. .m100");
        faultIs(4, "k.. .m100");
        faultIs(4, "k..m 100");
        faultIs(5, "k..m1 00");
        faultIs(6, "k..m10 0");
        faultIs(11, "k..m100 t11 0");
    }

    private static void firstItem() {
        Sentences.of(TERMS, "The first item is k (107)");
        for (int from = -128; from < 128; from += 64) {
            Trial x = new Trial().text(0, " ...m100");
            for (int sign = from; sign < from + 64; sign++) {
                int due = sign == 107 ? NONE : sign == 32 ? 1 : 0;
                x.says("put(0, 0, " + sign + ")");
                Due.is("fault(0) with " + sign + " first", x.says("fault(0)"), due);
            }
        }
        faultIs(0, "m100k..");
        faultIs(3, "k..k..m100");
        faultIs(7, "k..m100k..");
        new Trial().text(0, " ..m100").is(1032, "put(0, 0, 363)").is(NONE, "fault(0)").is(1107, "put(0, 0, 107)");
    }

    private static void howManyHooks() {
        Sentences.of(TERMS, "and the PLACES of HOOKS 0, 1, .. (2 to 7 letters, as many as stand together:");
        faultIs(1, "km100");
        faultIs(2, "k.m100");
        for (int hooks = 2; hooks <= 7; hooks++) {
            new Trial().text(0, "k" + some('.', hooks) + "m100").is(1, "deck(0)").is(hooks, "count(1)").bad("hook(" + hooks + ", 0)");
        }
        faultIs(8, "k........m100");
        faultIs(5, "k... .m100");
        Trial.ofDeck("kdlug.dlm100").asks(1, 1, "hook(0, 0)").asks(1, 2, "hook(1, 0)").asks(1, 3, "hook(2, 0)").asks(1, 4, "hook(3, 0)")
            .asks(1, 0, "hook(4, 0)").asks(1, 1, "hook(5, 0)").asks(1, 2, "hook(6, 0)");
    }

    private static void placeLetters() {
        Sentences.of(TERMS, ". (46) plain, d (100) draught, l (108) ladder, u (117) pump, g (103) galley).");
        int[] letters = {46, 100, 108, 117, 103};
        for (int from = -128; from < 128; from += 64) {
            Trial x = new Trial().text(0, "k...m100");
            for (int sign = from; sign < from + 64; sign++) {
                int place = -1;
                for (int i = 0; i < letters.length; i++) place = letters[i] == sign ? i : place;
                x.says("put(0, 2, " + sign + ")");
                Due.is("fault(0) with " + sign + " as a place", x.says("fault(0)"), place < 0 ? 2 : NONE);
                if (place < 0) continue;
                x.is(1, "deck(0)").asks(1, place, "hook(1, 0)");
            }
        }
    }

    private static void howManyMen() {
        Sentences.of(TERMS, "Then MEN (1 to 6, no more than HOOKS;");
        for (int hooks = 2; hooks <= 7; hooks++) {
            String places = "k" + some('.', hooks);
            faultIs(hooks + 1, places);
            for (int men = 1; men <= Math.min(6, hooks); men++) well(places + "m100".repeat(men), men);
            int most = Math.min(6, hooks);
            faultIs(hooks + 1 + 4 * most, places + "m100".repeat(most + 1));
        }
        Sentences.of(TERMS, "0, 1, .. as they come):");
        Trial x = Trial.ofDeck("k...... m100t200 s300f400  n500i600");
        for (int m = 0; m < 6; m++) x.asks(1, m, "man(" + m + ", 0)").asks(1, m + 1, "man(" + m + ", 1)");
        x.bad("man(6, 0)");
    }

    /** A place of "k..m100" with any byte: these figures are well there, and told as a detail of the man. */
    private static void figureIs(int place, int least, int most, int detail) {
        for (int from = -128; from < 128; from += 64) {
            Trial x = new Trial().text(0, "k..m100");
            for (int sign = from; sign < from + 64; sign++) {
                boolean figure = sign >= '0' + least && sign <= '0' + most;
                x.says("put(0, " + place + ", " + sign + ")");
                Due.is("fault(0) with " + sign + " at " + place, x.says("fault(0)"), figure ? NONE : place);
                if (figure) x.is(1, "deck(0)").asks(1, sign - '0', "man(0, " + detail + ")");
            }
        }
    }

    private static void figures() {
        Sentences.of(TERMS, "a letter, the LINE (1 .. 9), the WATCH (0, 1), the MESS (0 .. 3), one figure each.");
        figureIs(4, 1, 9, 1);
        figureIs(5, 0, 1, 2);
        figureIs(6, 0, 3, 3);
        faultIs(7, "k..m1000");
        faultIs(6, "k..m11t100");
        faultIs(3, "k..100m");
    }

    private static void faultsByLetters() {
        Sentences.of(TERMS, "A FAULT is the first place at which it can't go on so (a letter, a figure that is none such,");
        faultIs(0, "x..m100");
        faultIs(2, "  x..m100");
        faultIs(1, "kx.m100");
        faultIs(2, "k.x.m100");
        faultIs(3, "k..x.m100");
        faultIs(3, "k..xm100");
        faultIs(3, "k..M100");
        faultIs(4, "k..mm100");
        faultIs(4, "k..m000");
        faultIs(5, "k..m120");
        faultIs(6, "k..m104");
        // of two faults the first
        faultIs(4, "k..m024t000");
        faultIs(2, "k.x m000");
        faultIs(0, "x");
    }

    private static void faultsByMore() {
        Sentences.of(TERMS, "an eighth HOOK,");
        faultIs(8, "k........");
        faultIs(8, "k.......d m100");
        faultIs(10, "  kdlugdlud");
        faultIs(9, "k....... .");
        Sentences.of(TERMS, "a MAN more than there may be: its place;");
        faultIs(11, "k..m100m100m100");
        faultIs(13, "k..m100m100  m100");
        faultIs(11, "k..m100m100m");
        faultIs(11, "k..m100m100x");
        faultIs(32, "k.......m100m100m100m100m100m100m100");
        faultIs(35, "k.......m100m100m100m100m100m100   t999");
        faultIs(31, "k......m100m100m100m100m100m100i911");
    }

    private static void faultsBySize() {
        Sentences.of(TERMS, "the TEXT's size, if its end comes too early,");
        String signs = "k..m100t911";
        for (int size = 0; size < signs.length(); size++) {
            if (size != 7) faultIs(size, signs.substring(0, size));
        }
        faultIs(4, "  k.");
        faultIs(9, "k..m100 t");
        Sentences.of(TERMS, "or there is no MAN,");
        faultIs(3, "k..");
        faultIs(4, "k.. ");
        faultIs(8, "k.......");
        faultIs(60, "k......." + some(' ', 52));
        Sentences.of(TERMS, "or there are blanks alone).");
        faultIs(0, "");
        faultIs(1, " ");
        faultIs(59, some(' ', 59));
        faultIs(60, some(' ', 60));
    }

    private static void kinds() {
        Sentences.of(TERMS, "KINDS of MEN and letters: 0 MAN (m, 109), 1 TALL (t, 116; a MAN), 2 SNORER (s, 115; a MAN), "
            + "3 DEAF (f, 102; a MAN), 4 GIANT (n, 110; a TALL), 5 LIGHT (i, 105; a MAN).");
        int[] letters = {109, 116, 115, 102, 110, 105};
        for (int from = -128; from < 128; from += 64) {
            Trial x = new Trial().text(0, "k..?100");
            for (int sign = from; sign < from + 64; sign++) {
                int kind = -1;
                for (int i = 0; i < letters.length; i++) kind = letters[i] == sign ? i : kind;
                // a blank or one more hook goes on: then it is the figure that is none such
                int due = kind >= 0 ? NONE : " .dlug".indexOf((char) sign) >= 0 ? 4 : 3;
                x.says("put(0, 3, " + sign + ")");
                Due.is("fault(0) with " + sign + " as a kind", x.says("fault(0)"), due);
                if (kind >= 0) x.is(1, "deck(0)").asks(1, kind, "man(0, 0)");
            }
        }
        // who is of a kind: a giant of two, all others of one
        Trial y = Trial.ofDeck("k......m100t100s100f100n100i100");
        for (int m = 0; m < 6; m++) {
            for (int kind = 1; kind < 6; kind++) {
                boolean is = m == kind || m == 4 && kind == 1;
                Due.isTrue("mark(" + m + ", " + kind + ")", (y.says("mark(" + m + ", " + kind + ")") >= 0) == is);
            }
        }
        y.is(2, "count(5)");
    }

    private static void hooks() {
        Sentences.of(TERMS, "At first MAN 0 hangs at HOOK 0, MAN 1 at HOOK 1, ..");
        Trial.ofDeck("k.......m100m100m100m100m100m100").hooksAre(0, 1, 2, 3, 4, 5).asks(1, NONE, "hook(6, 1)").asks(1, 5, "hook(5, 1)");
        Trial.ofDeck("k..m100").hooksAre(0).asks(1, 0, "hook(0, 1)").asks(1, NONE, "hook(1, 1)");
        Sentences.of(TERMS, "A HOOK holds one at most;");
        Trial x = Trial.ofDeck("k...m100t200");
        x.state("hang(0, 1)").state("hang(0, 0)").is(2, "hang(0, 2)").state("hang(1, 2)").is(0, "hang(1, 0)").hooksAre(2, 0);
        x.asks(1, NONE, "hook(1, 1)").is(2, "count(3)");
        Sentences.of(TERMS, "a MAN may hang nowhere.");
        Trial y = Trial.ofDeck("k..m100t200").is(0, "down(0)").is(1, "down(1)").hooksAre(NONE, NONE).is(0, "count(3)").is(2, "count(0)");
        y.asks(1, NONE, "hook(0, 1)").asks(1, NONE, "hook(1, 1)");
    }

    private static void when() {
        // man 0 is of watch 0, men 1 and 2 of watch 1
        Trial x = Trial.ofDeck("k...m100m910m710");
        Sentences.of(TERMS, "WHEN is 0 in port (all are IN),");
        x.asks(8 + 10 + 2, 3, "all(0)").bad("all(-1)");
        Sentences.of(TERMS, "1 at sea by WATCH 0 (those of WATCH 0 are up, the others IN),");
        x.asks(4, 2, "all(1)").is(0, "woken(0, 1)").is(2, "woken(1, 1)").is(4, "neighbours(1, 1)").is(2, "neighbours(0, 1)");
        Sentences.of(TERMS, "2 by WATCH 1.");
        x.asks(0, 1, "all(2)").asks(0, 0, "worst(2)").is(1, "neighbours(1, 2)").is(0, "neighbours(0, 2)").bad("all(3)");
        Sentences.of(TERMS, "Who hangs nowhere is not IN.");
        x.is(1, "down(1)").asks(0, 2, "all(0)").asks(0, 1, "all(1)").is(0, "neighbours(0, 0)").is(0, "woken(1, 0)").none("by(1, 0)");
        x.is(0, "down(0)").is(2, "down(2)").asks(0, 0, "all(0)").none("worst(0)").none("worst(1)").none("worst(2)").is(0, "night(0)");
    }

    private static void neighbours() {
        Sentences.of(TERMS, "NEIGHBOURS are who is IN at the HOOK ahead, at that behind (by number).");
        Trial x = Trial.ofDeck("k.......m100m100m100m100m100m100").is(6, "hang(5, 6)");
        // at the first hook, in the midst, beside a free one, at the last: the first and the last are none
        x.is(2, "neighbours(0, 0)").is(5, "neighbours(1, 0)").is(8, "neighbours(4, 0)").is(0, "neighbours(5, 0)");
        Trial y = Trial.ofDeck("k..m100m100").is(2, "neighbours(0, 0)").is(1, "neighbours(1, 0)");
        y.is(1, "change(0, 1)").is(2, "neighbours(0, 0)").is(1, "neighbours(1, 0)");
        Trial z = Trial.ofDeck("k...m100m100m100").is(1, "change(1, 2)");
        z.is(4, "neighbours(0, 0)").is(3, "neighbours(2, 0)").is(4, "neighbours(1, 0)");
    }
}
