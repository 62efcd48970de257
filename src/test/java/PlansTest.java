/** Promises 28 to 34: plans, changes, messmates. */
public final class PlansTest {
    private static final int BAD = -1, STATE = -4, NONE = -9;
    private static final int NOTHING = 1, UNLIKE = 3, SIZE = 5;

    public static void main(String[] args) {
        best();
        bestAsItHangs();
        fair();
        fairAtSea();
        mixed();
        refusesPlans();
        judges();
        refusesJudging();
        gains();
        calm();
        calmByTheFirstPair();
        calmAtSea();
        mates();
        Due.end();
    }

    private static void best() {
        HammockDeck x = Due.deck("k...m100m900");
        Due.is("a hook between", x.best(0, 1), 0);
        Due.rowIs(x, "a hook between", 1, 0, 2);
        HammockDeck y = Due.deck("kl.lm100m500t200");
        Due.is("the tall one between", y.best(0, 5), 18);
        Due.rowIs(y, "of alike ones the first", 5, 0, 2, 1);
        HammockDeck z = Due.deck("k..m110m900");
        Due.is("both in", z.best(0, 0), 16);
        Due.rowIs(z, "both in", 0, 0, 1);
        Due.is("watch 1 up", z.best(2, 0), 0);
        Due.rowIs(z, "watch 1 up", 0, 0, 1);
        HammockDeck u = Due.deck("klg.m110m900");
        Due.is("watch 0 up: man 0 in", u.best(1, 2), 0);
        Due.rowIs(u, "who is up has the first hook left", 2, 1, 0);
        Due.is("watch 1 up: man 1 in", u.best(2, 2), 0);
        Due.rowIs(u, "watch 1 up", 2, 0, 1);
    }

    private static void bestAsItHangs() {
        HammockDeck x = Due.deck("k...m100m900");
        Due.row(x, 3, 5, 5, 5, 5);
        Due.is("down", x.down(1), 1);
        Due.is("who hangs nowhere, too", x.best(0, 3), 0);
        Due.rowIs(x, "the row anew", 3, 0, 2);
        Due.asks(x, "aside: still nowhere", x.man(1, 4), 1, NONE);
        Due.asks(x, "aside: still there", x.hook(0, 1), 1, 0);
        Due.is("no deed", x.count(2), 1);
        Due.is("line", x.line(1, 1), 9);
        Due.is("by lines as they are", x.best(0, 3), 0);
        Due.rowIs(x, "by lines as they are", 3, 0, 1);
    }

    private static void fair() {
        HammockDeck x = Due.deck("kl.lm100m500t200");
        Due.is("fair", x.fair(0, 1), 7);
        Due.rowIs(x, "of alike ones the first", 1, 0, 2, 1);
        // one light man between two alike is woken by both; at an end another is woken more in all
        HammockDeck y = Due.deck("k...m400i400m600");
        Due.is("all together", y.best(0, 1), 4);
        Due.rowIs(y, "all together", 1, 1, 0, 2);
        Due.is("the worst", y.fair(0, 1), 2);
        Due.rowIs(y, "the worst", 1, 1, 0, 2);
        HammockDeck z = Due.deck("kl..m100m300m900");
        Due.is("all together", z.best(0, 1), 19);
        Due.rowIs(z, "all together", 1, 0, 1, 2);
        Due.is("the worst", z.fair(0, 1), 8);
        Due.rowIs(z, "the worst", 1, 0, 1, 2);
    }

    private static void fairAtSea() {
        HammockDeck x = Due.deck("kl..m110m900");
        Due.is("watch 0 up", x.fair(1, 4), 0);
        Due.rowIs(x, "watch 0 up", 4, 1, 0);
        Due.is("down", x.down(0), 0);
        Due.is("in port", x.fair(0, 4), 3);
        Due.rowIs(x, "in port", 4, 0, 2);
        HammockDeck y = Due.deck("kllm110m110");
        Due.is("none in", y.fair(2, 0), 0);
        Due.rowIs(y, "none in: the first of all", 0, 0, 1);
    }

    private static void mixed() {
        HammockDeck x = Due.deck("k...m100m900m910");
        Due.is("in port", x.best(0, 0), 16);
        Due.rowIs(x, "in port", 0, 0, 1, 2);
        Due.is("by both watches", x.mixed(0), 0);
        Due.rowIs(x, "by both watches", 0, 0, 2, 1);
        HammockDeck y = Due.deck("kld.m100m910");
        Due.is("both added", y.mixed(3), 1);
        Due.rowIs(y, "both added", 3, 1, 2);
        HammockDeck z = Due.deck("klum100m910");
        Due.is("both added", z.mixed(3), 5);
        Due.rowIs(z, "both added", 3, 0, 1);
    }

    private static void refusesPlans() {
        HammockDeck none = new HammockDeck();
        Due.is("best: no men", none.best(0, 0), STATE);
        Due.is("fair: no men", none.fair(0, 0), STATE);
        Due.is("mixed: no men", none.mixed(0), STATE);
        Due.is("mates: no men", none.mates(), STATE);
        Due.finds(none, "no row by these", none.at(0, 0), NOTHING);
        HammockDeck x = Due.deck("k..m100");
        int[][] bad = {{3, 0}, {-1, 0}, {0, 6}, {0, -1}};
        for (int[] wrong : bad) {
            Due.is("best: BAD", x.best(wrong[0], wrong[1]), BAD);
            Due.is("fair: BAD", x.fair(wrong[0], wrong[1]), BAD);
            Due.is("best: BAD ahead of STATE", none.best(wrong[0], wrong[1]), BAD);
            Due.is("fair: BAD ahead of STATE", none.fair(wrong[0], wrong[1]), BAD);
        }
        Due.is("mixed: BAD", x.mixed(6), BAD);
        Due.is("mixed: BAD", x.mixed(-1), BAD);
        Due.is("mixed: BAD ahead of STATE", none.mixed(6), BAD);
        Due.is("no rows by these", x.count(6), 0);
    }

    private static void judges() {
        HammockDeck x = Due.deck("kl..m100m910");
        int[][] plans = {{0, 1, 19, 0, 3}, {0, 2, 3, 0, 3}, {1, 0, 19, 3, 0}, {1, 2, 16, 0, 0}, {2, 0, 3, 3, 0}, {2, 1, 16, 0, 0}};
        for (int[] plan : plans) {
            Due.row(x, 0, plan[0], plan[1]);
            for (int when = 0; when < 3; when++) {
                Due.is("plan " + plan[0] + plan[1] + " when " + when, x.judge(0, when), plan[2 + when]);
            }
        }
        Due.asks(x, "aside: as it hung", x.man(0, 4), 1, 0);
        Due.is("no deed", x.count(2), 0);
    }

    private static void refusesJudging() {
        HammockDeck none = new HammockDeck();
        Due.is("no men", none.judge(0, 0), STATE);
        Due.is("BAD ahead of STATE", none.judge(6, 0), BAD);
        Due.is("BAD ahead of STATE", none.judge(0, 3), BAD);
        HammockDeck x = Due.deck("kl..m100m910");
        Due.is("no such row", x.judge(6, 0), BAD);
        Due.is("no such row", x.judge(-1, 0), BAD);
        Due.finds(x, "missing", x.judge(0, 0), NOTHING);
        Due.is("BAD ahead of NOTHING", x.judge(0, -1), BAD);
        Due.row(x, 0, 9);
        Due.finds(x, "too few, SIZE ahead of UNLIKE", x.judge(0, 0), SIZE);
        Due.row(x, 0, 0, 1, 2);
        Due.finds(x, "too many", x.judge(0, 0), SIZE);
        Due.row(x, 0, 0, 3);
        Due.finds(x, "no such hook", x.judge(0, 0), UNLIKE);
        Due.row(x, 0, NONE, 1);
        Due.finds(x, "no hook: NONE", x.judge(0, 0), UNLIKE);
        Due.row(x, 0, 2, 2);
        Due.finds(x, "one twice", x.judge(0, 0), UNLIKE);
        Due.asks(x, "as it hung", x.man(1, 4), 1, 1);
    }

    private static void gains() {
        HammockDeck x = Due.deck("k....m100m900m200");
        Due.is("12 less", x.gain(0, 1, 0), 112);
        Due.is("14 less", x.gain(2, 1, 0), 114);
        Due.is("as much", x.gain(0, 2, 0), 100);
        Due.is("aside", x.all(0), 30);
        Due.is("no deed", x.count(2), 0);
        Due.is("the same", x.gain(1, 1, 0), BAD);
        Due.is("no such man", x.gain(3, 0, 0), BAD);
        Due.is("no such man", x.gain(0, -1, 0), BAD);
        Due.is("no such when", x.gain(0, 1, 3), BAD);
        Due.is("no such when", x.gain(0, 1, -1), BAD);
        Due.is("change", x.change(1, 2), 1);
        Due.is("14 more", x.gain(1, 2, 0), 86);
        Due.is("down", x.down(1), 2);
        Due.is("who hangs nowhere comes", x.gain(1, 2, 0), 100 + 2 - 16);
        Due.is("down", x.down(2), 1);
        Due.is("neither hangs", x.gain(1, 2, 0), 100);
        HammockDeck y = Due.deck("k...m100m910m200");
        Due.is("nothing at sea", y.gain(0, 1, 1), 100);
        Due.is("2 more at sea", y.gain(0, 1, 2), 98);
    }

    private static void calm() {
        HammockDeck none = new HammockDeck();
        Due.asks(none, "no men", none.calm(0), 1, NONE);
        HammockDeck x = Due.deck("k.....m100m900m100m900");
        Due.is("hang", x.hang(3, 4), 4);
        Due.is("hang", x.hang(2, 3), 3);
        Due.asks(x, "the first pair", x.calm(0), 0, 3);
        Due.asks(x, "aside", x.man(0, 4), 1, 0);
        Due.is("it changes", x.change(0, 3), 1);
        Due.asks(x, "calm", x.calm(0), 1, NONE);
        Due.is("back", x.undo(2), 1);
        Due.is("man 0 isn't in", x.down(0), 0);
        Due.asks(x, "calm: one of both only is less woken", x.calm(0), 1, NONE);
        Due.is("no such when", x.calm(3), BAD);
        Due.is("no such when", x.calm(-1), BAD);
        HammockDeck y = Due.deck("k..m100m900");
        Due.asks(y, "the same both ways", y.calm(0), 1, NONE);
    }

    private static void calmByTheFirstPair() {
        HammockDeck x = Due.deck("k.....m100m900m900m100");
        Due.is("hang", x.hang(1, 4), 4);
        Due.is("hang", x.hang(2, 1), 1);
        Due.asks(x, "0 and 1, 2 and 3, too", x.calm(0), 0, 1);
        HammockDeck y = Due.deck("k....m100m900m900");
        Due.is("hang", y.hang(1, 3), 3);
        Due.is("hang", y.hang(2, 1), 1);
        Due.asks(y, "the other as much as ahead", y.calm(0), 1, NONE);
        HammockDeck z = Due.deck("k....m900m100m900");
        Due.is("hang", z.hang(0, 3), 3);
        Due.is("hang", z.hang(1, 0), 0);
        Due.is("hang", z.hang(2, 1), 1);
        Due.asks(z, "the lesser as much as ahead", z.calm(0), 1, NONE);
    }

    private static void calmAtSea() {
        HammockDeck x = Due.deck("k.......m100m900m100m900m110m110");
        Due.is("hang", x.hang(5, 6), 6);
        Due.is("change", x.change(2, 4), 1);
        Due.is("change", x.change(2, 3), 1);
        // lines 1 9 up 1 9 nobody up, as watch 1 is up: men 0 and 3, or 1 and 2
        Due.asks(x, "at sea", x.calm(2), 0, 3);
        Due.asks(x, "the others at sea", x.calm(1), 1, NONE);
    }

    private static void mates() {
        HammockDeck x = Due.deck("k...m100m101m100");
        Due.asks(x, "none, and one", x.mates(), 0, 1);
        HammockDeck y = Due.deck("k.....m101m111m101m102");
        Due.asks(y, "by whichever watch", y.mates(), 2, 2);
        Due.is("hang", y.hang(1, 4), 4);
        Due.asks(y, "a mess apart", y.mates(), 0, 2);
        Due.is("hang", y.hang(3, 1), 1);
        Due.asks(y, "another mess between", y.mates(), 0, 2);
        Due.is("down", y.down(3), 1);
        Due.is("change", y.change(2, 3), 1);
        Due.asks(y, "who hangs nowhere makes none now", y.mates(), 0, 2);
        Due.is("aside", y.count(3), 3);
        HammockDeck z = Due.deck("k......m103m103m102m103m102m103");
        Due.asks(z, "4 in all by a plan", z.mates(), 1, 4);
    }
}
