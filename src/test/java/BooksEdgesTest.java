import java.io.IOException;

/** Promises 37 to 39, sentence by sentence: books, means of all plans, lots. */
public final class BooksEdgesTest {
    private static final int NONE = Trial.NONE;
    private static final String[] NO_ROWS = {"-1", "6", "MIN", "MAX"};
    private static final String[] NO_WHEN = {"-1", "3", "MIN", "MAX"};
    private static final String TWO = "kl..m100m910";

    public static void main(String[] args) throws IOException {
        fits();
        fitsByAll();
        refusesBooks();
        refusesBooksInOrder();
        mid();
        refusesMeans();
        lots();
        lotsBySeeds();
        refusesLots();
        Sentences.end("Promise 37", "Promise 38", "Promise 39");
    }

    private static void bookFits(Trial x, int plans, int hook, int... book) {
        x.row(5, book).asks(1, hook, "fits(5)").is(plans, "upper()").is(1, "lower()");
    }

    private static void fits() {
        Sentences.of("Promise 37", "A book in a ROW of pairs (WHEN, how much all were WOKEN together): how many PLANS of all MEN fit, told by upper() (lower() is 1);");
        // plans of TWO: 01 19 0 3, 02 3 0 3, 10 19 3 0, 12 16 0 0, 20 3 3 0, 21 16 0 0 (in port, watch 0 up, watch 1 up)
        Trial x = Trial.ofDeck(TWO).means(38, 3, "mid(0)");
        bookFits(x, 2, NONE, 0, 19);
        bookFits(x, 2, NONE, 0, 3);
        bookFits(x, 2, 0, 2, 3);
        bookFits(x, 4, NONE, 2, 0);
        bookFits(x, 1, 0, 2, 3, 0, 3);
        bookFits(x, 2, NONE, 2, 0, 1, 0);
        bookFits(x, 0, NONE, 0, 18);
        bookFits(x, 0, NONE, 0, -1);
        bookFits(x, 0, NONE, 1, Integer.MIN_VALUE);
        bookFits(x, 0, NONE, 1, Integer.MAX_VALUE);
        // twice the same is as once; what can't be both fits none
        bookFits(x, 2, 0, 2, 3, 2, 3);
        bookFits(x, 0, NONE, 2, 3, 2, 0);
        bookFits(x, 0, NONE, 0, 19, 0, 3);
        // a book of 20 pairs
        Trial y = Trial.ofDeck(TWO).is(40, "row(5, 40)");
        for (int i = 0; i < 40; i += 2) y.is(1, "lay(5, " + i + ", 2)").is(1, "lay(5, " + (i + 1) + ", 3)");
        y.asks(1, 0, "fits(5)").is(2, "upper()").is(1, "lay(5, 39, 0)").asks(1, NONE, "fits(5)").is(0, "upper()");
    }

    private static void fitsByAll() {
        Sentences.of("Promise 37", "the HOOK that MAN 0 has in all of these by asked() (NONE): 1.");
        Trial x = Trial.ofDeck(TWO);
        bookFits(x, 2, 0, 2, 3);
        bookFits(x, 2, NONE, 1, 3);
        bookFits(x, 1, 2, 0, 3, 1, 3);
        bookFits(x, 1, 1, 1, 3, 0, 19);
        bookFits(x, 1, 0, 0, 19, 2, 3);
        bookFits(x, 0, NONE, 0, 1);
        bookFits(x, 2, NONE, 0, 16, 1, 0, 2, 0);
        // the first and the last alike, one between not
        Trial y = Trial.ofDeck("k.d.m100");
        bookFits(y, 2, NONE, 0, 0);
        bookFits(y, 1, 1, 0, 1);
        bookFits(y, 3, NONE);
        bookFits(Trial.ofDeck("k......lm100"), 1, 6, 0, 3);
        // a row without places is well: all plans
        Trial z = Trial.ofDeck(TWO);
        bookFits(z, 6, NONE);
        z.is(0, "down(0)");
        bookFits(z, 6, NONE);
        bookFits(z, 2, 0, 2, 3);
        z.is(9, "line(1, 1)").hooksAre(NONE, 1).is(2, "count(2)");
        bookFits(z, 4, NONE, 0, 3);
        bookFits(Trial.ofDeck("k.......m100m100m100m100m100m100"), 5040, NONE);
    }

    private static void refusesBooks() {
        Sentences.of("Promise 37", "BAD;");
        Trial x = Trial.ofDeck(TWO).row(0);
        for (String none : NO_ROWS) x.bad("fits(" + none + ")");
        Sentences.of("Promise 37", "STATE: no MEN;");
        new Trial().row(0).row(1, 0, 0).state("fits(0)").state("fits(1)").state("fits(5)");
        Sentences.of("Promise 37", "NOTHING;");
        Trial y = Trial.ofDeck(TWO).row(0).finds(Trial.NOTHING, "fits(1)").finds(Trial.NOTHING, "fits(5)").is(1, "tear(0)")
            .finds(Trial.NOTHING, "fits(0)");
        Sentences.of("Promise 37", "SIZE: not by pairs (a ROW without places is well);");
        y.row(0, 0).finds(Trial.SIZE, "fits(0)").row(0, 0, 3, 0).finds(Trial.SIZE, "fits(0)").is(39, "row(0, 39)")
            .finds(Trial.SIZE, "fits(0)");
        y.row(0, 0, 3).asks(1, NONE, "fits(0)").row(0).asks(1, NONE, "fits(0)").is(6, "upper()");
        Sentences.of("Promise 37", "UNLIKE: no WHEN.");
        Trial z = Trial.ofDeck(TWO);
        for (int none : new int[] {-1, 3, 4, Integer.MIN_VALUE, Integer.MAX_VALUE}) {
            z.row(0, none, 3).finds(Trial.UNLIKE, "fits(0)").row(0, 0, 3, none, 0).finds(Trial.UNLIKE, "fits(0)");
        }
        // the last pair of 20; none would fit anyway; how much may be anything
        Trial u = Trial.ofDeck(TWO).is(40, "row(0, 40)").is(1, "lay(0, 38, 3)").finds(Trial.UNLIKE, "fits(0)").is(1, "lay(0, 38, 2)")
            .asks(1, NONE, "fits(0)");
        u.row(0, 0, 77, 3, 0).finds(Trial.UNLIKE, "fits(0)").row(0, 2, 3).asks(1, 0, "fits(0)").row(0, 1, -1).asks(1, NONE, "fits(0)")
            .is(0, "upper()");
    }

    private static void refusesBooksInOrder() {
        Sentences.of("Promise 37", "(In this order.)");
        // BAD ahead of STATE; STATE ahead of NOTHING, SIZE, UNLIKE
        new Trial().bad("fits(6)").bad("fits(-1)").state("fits(0)").row(0, 3).state("fits(0)").row(0, 3, 3).state("fits(0)");
        // NOTHING ahead of others is alone; SIZE ahead of UNLIKE
        Trial.ofDeck(TWO).finds(Trial.NOTHING, "fits(0)").row(0, 3).finds(Trial.SIZE, "fits(0)").row(0, 3, 3, 3)
            .finds(Trial.SIZE, "fits(0)").row(0, -1, 0, 0)
            .finds(Trial.SIZE, "fits(0)").row(0, 3, 3).finds(Trial.UNLIKE, "fits(0)");
    }

    private static void mid() {
        Sentences.of("Promise 38", "The mean of how much all are WOKEN together by all PLANS of all MEN, told by upper(), lower(): 1.");
        Trial x = Trial.ofDeck(TWO).means(38, 3, "mid(0)").means(1, 1, "mid(1)").means(1, 1, "mid(2)").is(0, "asked()").is(0, "down(0)")
            .is(1, "down(1)").means(38, 3, "mid(0)");
        x.is(9, "line(1, 1)").means(2, 1, "mid(0)").hooksAre(NONE, NONE).is(3, "count(2)");
        // nothing by any plan: 0 by 1
        Trial.ofDeck("k..m100").means(0, 1, "mid(0)").means(0, 1, "mid(1)").means(0, 1, "mid(2)");
        Trial.ofDeck("kgggggggm100m100m100m100m100m100").means(0, 1, "mid(0)");
        // in lowest terms: 4 by 3, 3 by 7, 6 by 6; of 5040 plans
        Trial.ofDeck("kld.m100").means(4, 3, "mid(0)");
        Trial.ofDeck("kl......m100").means(3, 7, "mid(0)");
        Trial.ofDeck("kl.....m100").means(1, 2, "mid(0)");
        Trial.ofDeck("kddddddm100").means(1, 1, "mid(0)");
        Trial.ofDeck("kd......m100m100m100m100m100m100").means(6, 7, "mid(0)");
        // man 5 has 10 by 7 neighbours, each of them 8 apart
        Trial.ofDeck("k.......m100m100m100m100m100m900").means(160, 7, "mid(0)");
    }

    private static void refusesMeans() {
        Sentences.of("Promise 38", "BAD;");
        Trial x = Trial.ofDeck(TWO).means(38, 3, "mid(0)");
        for (String none : NO_WHEN) x.bad("mid(" + none + ")");
        Sentences.of("Promise 38", "STATE: no MEN.");
        new Trial().state("mid(0)").state("mid(1)").state("mid(2)").bad("mid(3)").bad("mid(-1)").deck("kl.m100").means(3, 2, "mid(0)");
    }

    private static void lots() {
        Sentences.of("Promise 39", "n (1 .. 20) NIGHTS truly by LOTS of a seed:");
        // by each: 19 in port, 0 with watch 0 up, 3 with watch 1 up; lots of seed 1: 1 1 0 0 0 2 1 2 2 2
        int[] more = {0, 0, 19, 19, 19, 3, 0, 3, 3, 3};
        int together = 0;
        for (int n = 1; n <= more.length; n++) {
            together += more[n - 1];
            Trial.ofDeck("kl.m100m910").is(together, "lots(" + n + ", 1)").is(n, "count(2)").is(together, "count(4)")
                .is(1, "undo(" + (n - 1) + ")").is(together - more[n - 1], "count(4)");
        }
        Trial.ofDeck("k..m100").is(0, "lots(20, 1)").is(20, "count(2)").is(0, "lots(20, 2)").is(0, "lots(20, 3)").is(60, "count(2)");
        Sentences.of("Promise 39", "by how much all are more TIRED.");
        // 99 at most: what is still more
        Trial.ofDeck("k.l.n110i910n110").is(66, "night(0)").is(66, "night(0)").tiredAre(20, 92, 20).is(4 * 20 + 7, "lots(4, 1)")
            .tiredAre(60, 99, 60);
        Trial.ofDeck("k..m110m110").is(0, "lots(20, 77)").tiredAre(0, 0);
    }

    private static void lotsBySeeds() {
        Sentences.of("Promise 39", "a number comes from the one ahead by 48271 times it modulo 2147483647, the first from the seed (1 .. 2147483646): WHEN is it by 16, cut, modulo 3:");
        for (int seed : new int[] {1, 2, 3, 15, 16, 44488, 44489, 48271, 65536, 1073741823, 1073741824, 2147483645, 2147483646}) {
            Trial x = Trial.ofDeck("kl.m100m910");
            Trial y = Trial.ofDeck("kl.m100m910");
            long number = seed;
            long together = 0;
            for (int i = 0; i < 20; i++) {
                number = number * 48271L % 2147483647L;
                together += y.says("night(" + number / 16 % 3 + ")");
            }
            x.is(together, "lots(20, " + seed + ")").is(20, "count(2)");
            Due.is("digest() behind lots(20, " + seed + ")", x.says("digest()"), y.says("digest()"));
            for (int n = 19; n >= 0; n--) {
                x.is(1, "undo(" + n + ")");
                y.is(1, "undo(" + n + ")");
                Due.is("digest() behind lots(20, " + seed + "), undo(" + n + ")", x.says("digest()"), y.says("digest()"));
            }
        }
    }

    private static void refusesLots() {
        Sentences.of("Promise 39", "BAD;");
        Trial x = Trial.ofDeck("kl.m100m910");
        for (String n : new String[] {"0", "21", "-1", "22", "61", "MIN", "MAX"}) x.bad("lots(" + n + ", 1)");
        for (String seed : new String[] {"0", "-1", "MAX", "MIN", "-2147483647"}) x.bad("lots(1, " + seed + ")");
        x.bad("lots(0, 0)").is(0, "lots(1, 1)");
        Due.isTrue("lots(1, 2147483646)", x.says("lots(1, 2147483646)") >= 0);
        Due.isTrue("lots(20, 1)", x.says("lots(20, 1)") >= 0);
        Sentences.of("Promise 39", "STATE: no MEN;");
        new Trial().state("lots(1, 1)").state("lots(20, 2147483646)").bad("lots(0, 1)").bad("lots(21, 1)").bad("lots(1, 0)")
            .bad("lots(1, MAX)");
        Sentences.of("Promise 39", "FULL: with n more there would be more than 60 DEEDS.");
        Trial.ofDeck("k..m100").deeds(40).is(0, "lots(20, 1)").is(60, "count(2)").full("lots(1, 1)").is(20, "undo(40)")
            .is(1, "line(0, 9)").full("lots(20, 1)").is(41, "count(2)")
            .is(0, "lots(19, 1)").is(60, "count(2)");
        Trial.ofDeck("k..m100").deeds(59).full("lots(2, 1)").full("lots(20, 1)").is(0, "lots(1, 1)").full("lots(1, 1)").is(60, "count(2)");
        Sentences.of("Promise 39", "(FULL last.)");
        Trial.ofDeck("k..m100").deeds(60).bad("lots(0, 1)").bad("lots(21, 1)").bad("lots(1, 0)").bad("lots(20, MAX)").full("lots(20, 1)");
    }
}
