import java.io.IOException;

/** Promises 28 to 34, sentence by sentence: plans, what a change brings, messmates. */
public final class PlansEdgesTest {
    private static final int NONE = Trial.NONE;
    private static final String[] NO_ROWS = {"-1", "6", "MIN", "MAX"};
    private static final String[] NO_WHEN = {"-1", "3", "MIN", "MAX"};
    private static final String TWO = "kl..m100m910";

    public static void main(String[] args) throws IOException {
        best();
        bestOfAll();
        fair();
        mixed();
        plansComeToRows();
        refusesPlans();
        judge();
        refusesJudging();
        refusesJudgingInOrder();
        gain();
        refusesGains();
        calm();
        calmByThoseWhoAreIn();
        mates();
        Sentences.end("Promise 28", "Promise 29", "Promise 30", "Promise 31", "Promise 32", "Promise 33", "Promise 34");
    }

    private static void best() {
        Sentences.of("Promise 28", "The PLAN of all MEN by which all are WOKEN least together (the first)");
        // plans of TWO: 01 19 0 3, 02 3 0 3, 10 19 3 0, 12 16 0 0, 20 3 3 0, 21 16 0 0 (in port, watch 0 up, watch 1 up)
        Trial.ofDeck(TWO).is(3, "best(0, 1)").rowIs(1, 0, 2).is(0, "best(1, 1)").rowIs(1, 0, 1).is(0, "best(2, 1)").rowIs(1, 1, 0);
        // the first plan of all, the last of all
        Trial.ofDeck("k..m500m500").is(0, "best(0, 0)").rowIs(0, 0, 1);
        Trial.ofDeck("kl.m110m900").is(0, "best(1, 0)").rowIs(0, 1, 0);
        Trial.ofDeck("klg.....m100m200m300m400m500i600").is(9, "best(0, 5)").rowIs(5, 6, 5, 4, 3, 2, 1);
        Trial.ofDeck("kl.m100").is(0, "best(0, 0)").rowIs(0, 1);
        Trial.ofDeck("k.lm100").is(0, "best(0, 0)").rowIs(0, 0);
        // of those who are up none is woken: all plans are alike for them
        Trial.ofDeck("klllm100m100m100").is(0, "best(1, 0)").rowIs(0, 0, 1, 2).is(9, "best(0, 0)").rowIs(0, 0, 1, 2);
    }

    private static void bestOfAll() {
        Sentences.of("Promise 28", "The PLAN of all MEN");
        // as it hangs is of no account: who hangs nowhere is in it, too; lines are as they are now
        Trial x = Trial.ofDeck(TWO).is(0, "down(0)").is(1, "down(1)").is(3, "best(0, 1)").rowIs(1, 0, 2).is(0, "count(3)")
            .hooksAre(NONE, NONE);
        x.is(9, "line(1, 1)").is(0, "best(0, 1)").rowIs(1, 1, 2).is(2, "hang(1, 2)").is(0, "best(0, 1)").rowIs(1, 1, 2);
        x.hooksAre(NONE, 2).is(4, "count(2)");
    }

    private static void fair() {
        Sentences.of("Promise 29", "The PLAN of all MEN by which who is WOKEN most is WOKEN least (the first)");
        Trial.ofDeck(TWO).is(3, "fair(0, 1)").rowIs(1, 0, 2).is(0, "fair(1, 1)").rowIs(1, 0, 1).is(0, "fair(2, 1)").rowIs(1, 1, 0);
        // 2 and 2 are better for the worst than 0 and 3, though more together
        Trial.ofDeck("k..lm100m300").is(3, "best(0, 0)").rowIs(0, 0, 2).is(2, "fair(0, 0)").rowIs(0, 0, 1);
        // nobody is in: 0, by the first plan; the last plan of all
        Trial.ofDeck("kllm110m110").is(0, "fair(2, 0)").rowIs(0, 0, 1);
        Trial.ofDeck("kl.m110m900").is(0, "fair(1, 0)").rowIs(0, 1, 0);
        Trial.ofDeck("kllm100m100").is(3, "fair(0, 0)").rowIs(0, 0, 1);
        Trial.ofDeck("kl.m100").is(0, "down(0)").is(0, "fair(0, 0)").rowIs(0, 1).hooksAre(NONE);
        // six men at seven hooks
        Trial.ofDeck("klg.....m100m200m300m400m500i600").is(2, "fair(0, 5)").rowIs(5, 1, 2, 3, 4, 5, 6);
    }

    private static void mixed() {
        Sentences.of("Promise 30", "The PLAN of all MEN by which all are WOKEN least together at sea by WATCH 0, and by WATCH 1, added (the first),");
        Trial.ofDeck(TWO).is(0, "mixed(1)").rowIs(1, 1, 2);
        Trial.ofDeck("k...m100m900m910").is(0, "mixed(0)").rowIs(0, 0, 2, 1);
        // each counts by one of both: 3 and 1; 1 and 2 are less than 3 and 0
        Trial.ofDeck("kldm100m910").is(4, "mixed(0)").rowIs(0, 0, 1);
        Trial.ofDeck("kldum100m910").is(3, "mixed(0)").rowIs(0, 1, 2);
        Trial.ofDeck("k..m500m500").is(0, "mixed(0)").rowIs(0, 0, 1);
        // the last plan of all; of a man alone; who hangs nowhere, too
        Trial.ofDeck("kd.i100m110").is(1, "mixed(0)").rowIs(0, 1, 0);
        Trial.ofDeck("kl.m100").is(0, "down(0)").is(0, "mixed(0)").rowIs(0, 1).hooksAre(NONE).is(1, "count(2)");
        // six men at seven hooks, by turns of both watches: nobody has a neighbour
        Trial.ofDeck("k.......m100m200m300m410m510i610").is(0, "mixed(0)").rowIs(0, 0, 2, 4, 1, 3, 5);
    }

    private static void comesTo(String part, String call) {
        Sentences.of(part, "comes to a ROW (anew): how much.");
        for (int r = 0; r < 6; r++) {
            Trial x = Trial.ofDeck("k...m100m900");
            // missing, with more places, with none
            x.is(0, call + r + ")").rowIs(r, 0, 2).is(1, "count(6)");
            x.is(40, "row(" + r + ", 40)").is(1, "lay(" + r + ", 0, 7)").is(0, call + r + ")").is(Trial.FINDING, "at(" + r + ", 2)")
                .asks(1, 0, "at(" + r + ", 0)");
            x.is(0, "row(" + r + ", 0)").is(0, call + r + ")").is(Trial.FINDING, "at(" + r + ", 2)").asks(1, 0, "at(" + r + ", 0)")
                .is(1, "count(6)");
        }
        // aside: nothing else is changed, nothing told by asked(), upper(), lower()
        Trial y = Trial.ofDeck("k..m100m900").row(3, 7, 8, 9).is(1, "down(1)").asks(1, 9, "at(3, 2)");
        y.says(call + "2)");
        y.is(9, "asked()").is(0, "upper()").is(1, "lower()").hooksAre(0, NONE).rowIs(3, 7, 8, 9).is(1, "count(2)").is(0, "count(4)");
    }

    private static void plansComeToRows() {
        comesTo("Promise 28", "best(0, ");
        comesTo("Promise 29", "fair(0, ");
        comesTo("Promise 30", "mixed(");
    }

    private static void refusesPlans() {
        for (String[] of : new String[][] {{"Promise 28", "best"}, {"Promise 29", "fair"}}) {
            Sentences.of(of[0], "BAD;");
            Trial x = Trial.ofDeck(TWO).row(0, 7, 7, 7);
            for (String none : NO_ROWS) x.bad(of[1] + "(0, " + none + ")");
            for (String none : NO_WHEN) x.bad(of[1] + "(" + none + ", 0)");
            x.bad(of[1] + "(3, 6)").rowIs(0, 7, 7, 7).is(1, "count(6)");
            Sentences.of(of[0], "STATE: no MEN.");
            Trial none = new Trial().row(0, 7).state(of[1] + "(0, 0)").state(of[1] + "(2, 5)").state(of[1] + "(1, 1)").rowIs(0, 7)
                .is(1, "count(6)");
            none.bad(of[1] + "(3, 0)").bad(of[1] + "(0, 6)").bad(of[1] + "(-1, 0)").bad(of[1] + "(0, -1)");
        }
        Sentences.of("Promise 30", "BAD;");
        Trial x = Trial.ofDeck(TWO);
        for (String none : NO_ROWS) x.bad("mixed(" + none + ")");
        x.is(0, "count(6)");
        Sentences.of("Promise 30", "STATE: no MEN.");
        new Trial().row(0, 7).state("mixed(0)").state("mixed(5)").rowIs(0, 7).bad("mixed(6)").bad("mixed(-1)").deck(TWO).is(0, "mixed(5)");
    }

    private static void judge() {
        Sentences.of("Promise 31", "How much all are WOKEN together by a PLAN in a ROW.");
        int[][] plans = {{0, 1, 19, 0, 3}, {0, 2, 3, 0, 3}, {1, 0, 19, 3, 0}, {1, 2, 16, 0, 0}, {2, 0, 3, 3, 0}, {2, 1, 16, 0, 0}};
        Trial x = Trial.ofDeck(TWO);
        for (int[] plan : plans) {
            x.row(5, plan[0], plan[1]);
            for (int when = 0; when < 3; when++) x.is(plan[2 + when], "judge(5, " + when + ")");
        }
        // aside; of men that hang nowhere, too; by lines as they are now
        x.rowIs(5, 2, 1).hooksAre(0, 1).is(0, "count(2)").is(0, "down(0)").is(1, "down(1)").is(16, "judge(5, 0)").is(9, "line(1, 2)")
            .is(2, "judge(5, 0)").hooksAre(NONE, NONE);
        x.is(0, "upper()").is(1, "lower()");
        Trial.ofDeck("k.......m100m100m100m100m100m900").row(0, 6, 5, 4, 3, 2, 1).is(16, "judge(0, 0)").row(0, 6, 5, 4, 3, 2, 0)
            .is(0, "judge(0, 0)");
        Trial.ofDeck("k.lm100").row(0, 1).is(3, "judge(0, 0)").is(0, "judge(0, 1)").row(0, 0).is(0, "judge(0, 0)");
    }

    private static void refusesJudging() {
        Sentences.of("Promise 31", "BAD;");
        Trial x = Trial.ofDeck(TWO).row(0, 0, 1);
        for (String none : NO_ROWS) x.bad("judge(" + none + ", 0)");
        for (String none : NO_WHEN) x.bad("judge(0, " + none + ")");
        Sentences.of("Promise 31", "STATE: no MEN;");
        new Trial().row(0, 0, 1).row(1).state("judge(0, 0)").state("judge(1, 0)").state("judge(0, 2)");
        Sentences.of("Promise 31", "NOTHING;");
        Trial y = Trial.ofDeck(TWO).row(0, 0, 1).finds(Trial.NOTHING, "judge(1, 0)").finds(Trial.NOTHING, "judge(5, 2)")
            .is(1, "tear(0)").finds(Trial.NOTHING, "judge(0, 0)");
        Sentences.of("Promise 31", "SIZE: not as many as MEN;");
        y.row(0).finds(Trial.SIZE, "judge(0, 0)").row(0, 0).finds(Trial.SIZE, "judge(0, 0)").row(0, 0, 1, 2)
            .finds(Trial.SIZE, "judge(0, 0)").row(0, 0, 1).is(19, "judge(0, 0)");
        Trial.ofDeck("k.......m100m100m100m100m100m100").row(0, 0, 1, 2, 3, 4).finds(Trial.SIZE, "judge(0, 0)")
            .row(0, 0, 1, 2, 3, 4, 5, 6).finds(Trial.SIZE, "judge(0, 0)")
            .row(0, 0, 1, 2, 3, 4, 5).is(0, "judge(0, 0)");
        Sentences.of("Promise 31", "UNLIKE: no HOOK, or one twice.");
        Trial z = Trial.ofDeck(TWO).row(0, 0, 2).is(3, "judge(0, 0)");
        for (int none : new int[] {-1, 3, 4, -9, Integer.MIN_VALUE, Integer.MAX_VALUE}) {
            z.is(1, "lay(0, 1, " + none + ")").finds(Trial.UNLIKE, "judge(0, 0)");
        }
        z.row(0, 3, 0).finds(Trial.UNLIKE, "judge(0, 0)").row(0, -1, 0).finds(Trial.UNLIKE, "judge(0, 0)");
        for (int h = 0; h < 3; h++) z.row(0, h, h).finds(Trial.UNLIKE, "judge(0, 1)");
        Trial.ofDeck("k.......m100m100m100m100m100m100").row(0, 0, 1, 2, 3, 4, 0).finds(Trial.UNLIKE, "judge(0, 0)")
            .row(0, 6, 1, 2, 3, 4, 6).finds(Trial.UNLIKE, "judge(0, 0)")
            .row(0, 0, 1, 2, 3, 4, 7).finds(Trial.UNLIKE, "judge(0, 0)").row(0, 6, 1, 2, 3, 4, 0).is(0, "judge(0, 0)");
    }

    private static void refusesJudgingInOrder() {
        Sentences.of("Promise 31", "(In this order.)");
        // BAD ahead of STATE, NOTHING, SIZE, UNLIKE
        new Trial().bad("judge(6, 0)").bad("judge(0, 3)").row(0, 9).bad("judge(0, 3)").bad("judge(-1, -1)");
        Trial x = Trial.ofDeck(TWO).bad("judge(0, 3)").row(0, 9).bad("judge(0, 3)").row(0, 9, 9).bad("judge(0, -1)");
        // STATE ahead of NOTHING, SIZE, UNLIKE
        new Trial().state("judge(0, 0)").row(0, 9).state("judge(0, 0)").row(0, 9, 9).state("judge(0, 0)");
        // SIZE ahead of UNLIKE
        x.row(0, 9).finds(Trial.SIZE, "judge(0, 0)").row(0, 1, 1, 1).finds(Trial.SIZE, "judge(0, 0)").row(0, -1, 0, 1)
            .finds(Trial.SIZE, "judge(0, 0)");
        x.row(0, 1, 1).finds(Trial.UNLIKE, "judge(0, 0)").is(1, "tear(0)").finds(Trial.NOTHING, "judge(0, 0)");
    }

    private static void gain() {
        Sentences.of("Promise 32", "By how much less all are WOKEN together, if two CHANGE (100 more; less than 100: more).");
        Trial x = Trial.ofDeck("k....m100m900m200").is(112, "gain(0, 1, 0)").is(112, "gain(1, 0, 0)").is(114, "gain(1, 2, 0)")
            .is(100, "gain(0, 2, 0)").is(1, "change(1, 2)");
        x.is(86, "gain(1, 2, 0)").is(100, "gain(0, 1, 1)").is(100, "gain(0, 1, 2)").is(1, "count(2)").hooksAre(0, 2, 1).is(0, "upper()")
            .is(1, "lower()");
        // one hangs nowhere: the other will; neither hangs: as ahead
        x.is(2, "down(1)").is(100 + 2 - 16, "gain(1, 2, 0)").is(1, "down(2)").is(100, "gain(1, 2, 0)").is(100, "gain(2, 1, 0)")
            .is(0, "down(0)").is(100, "gain(0, 1, 0)").is(100, "gain(0, 1, 2)");
        // so much more that not even 100 is left; and back
        Trial y = Trial.ofDeck("k......i100i100i100i900i900i900").asks(32, 6, "all(0)").is(-28, "gain(1, 4, 0)")
            .is(-28, "gain(4, 1, 0)").is(1, "change(1, 4)").asks(160, 6, "all(0)");
        y.is(228, "gain(1, 4, 0)");
        // what STATE is, but no refusal
        Trial.ofDeck("k......i100i200i300i900i900i900").asks(32, 6, "all(0)").is(100 + 32 - 136, "gain(1, 4, 0)").is(1, "change(1, 4)")
            .is(204, "gain(4, 1, 0)");
        // by the watch that is in alone
        Trial.ofDeck("k...m100m910m200").is(100, "gain(0, 1, 1)").is(98, "gain(0, 1, 2)").is(114, "gain(1, 2, 0)").is(98, "gain(1, 2, 2)");
    }

    private static void refusesGains() {
        Sentences.of("Promise 32", "BAD: also the same.");
        Trial x = Trial.ofDeck("k....m100m900m200");
        for (int m = 0; m < 3; m++) x.bad("gain(" + m + ", " + m + ", 0)");
        for (String none : new String[] {"-1", "3", "4", "MIN", "MAX"}) x.bad("gain(" + none + ", 0, 0)").bad("gain(0, " + none + ", 0)");
        for (String none : NO_WHEN) x.bad("gain(0, 1, " + none + ")");
        x.bad("gain(3, 3, 0)").bad("gain(0, 0, 3)").is(112, "gain(0, 1, 0)");
        new Trial().bad("gain(0, 1, 0)");
        Trial.ofDeck("k..m100").bad("gain(0, 1, 0)").bad("gain(0, 0, 0)");
    }

    private static void calm() {
        Sentences.of("Promise 33", "Whether no two would CHANGE so that both are less WOKEN (1, 0; each of whom is IN);");
        new Trial().asks(1, NONE, "calm(0)").asks(1, NONE, "calm(1)").asks(1, NONE, "calm(2)");
        Trial.ofDeck("kl.m100").asks(1, NONE, "calm(0)");
        // lines 1 9 1 9: the ends change, both are less woken
        Trial.ofDeck("k....m100m900m100m900").asks(0, 3, "calm(0)");
        // the one as much as ahead, the other less: no
        Trial.ofDeck("k....m900m900m100").is(3, "hang(1, 3)").is(1, "hang(2, 1)").asks(1, NONE, "calm(0)");
        Trial.ofDeck("k....m900m100m900").is(3, "hang(0, 3)").is(0, "hang(1, 0)").is(1, "hang(2, 1)").asks(1, NONE, "calm(0)");
        // both as much as ahead: no
        Trial.ofDeck("k..m100m900").asks(1, NONE, "calm(0)");
        Trial.ofDeck("kllm100m900").asks(1, NONE, "calm(0)");
        // both less, though all together are more: what the others have is of no account
        Trial.ofDeck("kg...f100n900f100i200").is(95, "gain(1, 2, 0)").asks(0, 6 + 2, "calm(0)").is(20, "woken(1, 0)")
            .is(11, "woken(2, 0)").is(1, "change(1, 2)")
            .is(19, "woken(1, 0)").is(10, "woken(2, 0)");
        Sentences.of("Promise 33", "the first such pair by asked() (6 times the lesser, and the other; NONE).");
        Trial.ofDeck("k.....m100m900m900m100").is(4, "hang(1, 4)").is(1, "hang(2, 1)").asks(0, 1, "calm(0)");
        Trial x = Trial.ofDeck("k....m900m100m900m100").asks(0, 3, "calm(0)").is(1, "change(0, 1)").asks(1, NONE, "calm(0)")
            .is(1, "undo(0)").asks(0, 3, "calm(0)").is(1, "change(0, 3)");
        x.asks(1, NONE, "calm(0)").hooksAre(3, 1, 2, 0).is(1, "count(2)");
        // the last pair there may be
        Trial.ofDeck("k......m200m100m100m300m200m100").is(1, "change(4, 0)").asks(0, 29, "calm(0)").is(1, "change(4, 5)")
            .asks(1, NONE, "calm(0)");
    }

    private static void calmByThoseWhoAreIn() {
        Sentences.of("Promise 33", "each of whom is IN");
        // all are of watch 0: by it nobody is in
        Trial x = Trial.ofDeck("k....m100m900m100m900").asks(0, 3, "calm(0)").asks(1, NONE, "calm(1)").asks(0, 3, "calm(2)");
        x.is(0, "down(0)").asks(1, NONE, "calm(0)");
        // in port alone; at sea alone, where the lesser, or the other, would not gain in port
        Trial.ofDeck("k....m100m510m100m510").asks(0, 3, "calm(0)").asks(1, NONE, "calm(1)").asks(1, NONE, "calm(2)");
        Trial.ofDeck("k.....m900m100m110m100m900").asks(0, 3, "calm(2)").asks(1, NONE, "calm(0)").asks(1, NONE, "calm(1)");
        Trial.ofDeck("k.....m910m900m500m900m100").asks(0, 10, "calm(2)").asks(1, NONE, "calm(0)").asks(1, NONE, "calm(1)");
        Sentences.of("Promise 33", "BAD.");
        for (String none : NO_WHEN) x.bad("calm(" + none + ")");
        new Trial().bad("calm(3)").bad("calm(-1)");
    }

    private static void mates() {
        Sentences.of("Promise 34", "How many pairs of messmates hang at HOOKS side by side; the most that any PLAN of all MEN makes by asked().");
        Trial.ofDeck("k......m100m110m100m110m100m110").asks(5, 5, "mates()").is(2, "down(2)").asks(3, 5, "mates()").is(0, "count(6)");
        Trial.ofDeck("k...m100m101m100").asks(0, 1, "mates()").is(1, "change(1, 2)").asks(1, 1, "mates()").is(1, "count(2)");
        Trial.ofDeck("k....m100m101m102m103").asks(0, 0, "mates()");
        Trial.ofDeck("k..m103").asks(0, 0, "mates()");
        Trial x = Trial.ofDeck("k..m103m103").asks(1, 1, "mates()").is(0, "down(0)").asks(0, 1, "mates()").is(1, "down(1)")
            .asks(0, 1, "mates()").hooksAre(NONE, NONE);
        // a free hook between; the first hook and the last are not side by side
        Trial.ofDeck("k...m100m100").is(2, "hang(1, 2)").asks(0, 1, "mates()").is(1, "hang(0, 1)").asks(1, 1, "mates()");
        Trial.ofDeck("k.......m101m101m102m102m103m103").asks(3, 3, "mates()").is(6, "hang(0, 6)").asks(2, 3, "mates()");
        Sentences.of("Promise 34", "STATE: no MEN.");
        new Trial().state("mates()").deck("k..m100").asks(0, 0, "mates()");
    }
}
