import java.io.IOException;

/** Promises 35 and 36, sentence by sentence: lines, getting up. */
public final class LinesEdgesTest {
    private static final int NONE = Trial.NONE;
    private static final String[] NO_ROWS = {"-1", "6", "MIN", "MAX"};
    private static final String[] NO_WHEN = {"-1", "3", "MIN", "MAX"};

    public static void main(String[] args) throws IOException {
        cut();
        cutOfWhoIsNotIn();
        refusesCuts();
        up();
        upInOrder();
        upByThoseWhoAreIn();
        upComesToARow();
        refusesGettingUp();
        Sentences.end("Promise 35", "Promise 36");
    }

    private static void cut() {
        Sentences.of("Promise 35", "The LINE (1 .. 9) of a MAN by which all are WOKEN least together (the least such); how much by asked().");
        // from the shortest to the longest there is
        for (int line = 1; line <= 9; line++) Trial.ofDeck("k..m500m" + line + "00").asks(line, 0, "cut(0, 0)");
        // between two alike: the least; as it is
        Trial x = Trial.ofDeck("k...m100m900m500").asks(1, 8, "cut(1, 0)").asks(9, 8, "cut(0, 0)").asks(9, 16, "cut(2, 0)")
            .asks(1, 9, "man(1, 1)").is(0, "count(2)");
        Trial.ofDeck("k...m300m900m800").asks(3, 10, "cut(1, 0)");
        Trial.ofDeck("k...m800m100m200").asks(2, 12, "cut(1, 0)");
        Trial.ofDeck("k...m900m500m900").asks(9, 0, "cut(1, 0)");
        Trial.ofDeck("k...m100m500m100").asks(1, 0, "cut(1, 0)");
        // a light one beside counts more than another
        Trial.ofDeck("k...m200m500i800").asks(8, 12, "cut(1, 0)");
        // where it makes no difference: 1, what all are woken by
        Trial.ofDeck("kl.m500").asks(1, 3, "cut(0, 0)");
        // the galley takes off as much as one line: all are woken by nothing on 5, and by 1 on 4
        Trial.ofDeck("kg.m900m500").asks(5, 0, "cut(0, 0)");
        Trial.ofDeck("kggm900m500").asks(4, 0, "cut(0, 0)");
        x.is(8, "woken(0, 0)").is(0, "count(2)");
    }

    private static void cutOfWhoIsNotIn() {
        Sentences.of("Promise 35", "The LINE (1 .. 9) of a MAN");
        Trial x = Trial.ofDeck("k.l.m300m910m500").asks(1, 3 + 0, "cut(0, 1)").asks(1, 0, "cut(0, 2)").asks(1, 0, "cut(1, 2)")
            .asks(1, 3, "cut(1, 1)");
        x.is(1, "down(1)").asks(1, 0, "cut(1, 0)").asks(1, 0, "cut(0, 0)").is(1, "hang(2, 1)").asks(1, 7, "cut(1, 0)")
            .asks(3, 3, "cut(2, 0)");
        x.asks(1, 9, "man(1, 1)").asks(1, 5, "man(2, 1)").is(2, "count(2)");
    }

    private static void refusesCuts() {
        Sentences.of("Promise 35", "BAD.");
        Trial x = Trial.ofDeck("k...m100m900");
        for (String none : new String[] {"-1", "2", "3", "MIN", "MAX"}) x.bad("cut(" + none + ", 0)");
        for (String none : NO_WHEN) x.bad("cut(0, " + none + ")");
        x.bad("cut(2, 3)").asks(1, 0, "cut(1, 0)");
        new Trial().bad("cut(0, 0)");
    }

    private static void ordersAre(String signs, int much, int... order) {
        Trial.ofDeck(signs).is(much, "up(0, 3)").rowIs(3, order);
    }

    private static void up() {
        Sentences.of("Promise 36", "(of each each NEIGHBOUR that is still IN: 1, a TALL one 2, a GIANT 3), together");
        ordersAre("k..m100m100", 1, 0, 1);
        ordersAre("k..t100t100", 2, 0, 1);
        ordersAre("k..n100n100", 3, 0, 1);
        ordersAre("k..m100t100", 1, 1, 0);
        ordersAre("k..m100n100", 1, 1, 0);
        ordersAre("k..t100n100", 2, 1, 0);
        ordersAre("k..t100m100", 1, 0, 1);
        ordersAre("k..n100t100", 2, 0, 1);
        // snorers, deaf ones, light ones are in the way as any; lines are not
        ordersAre("k....s100f900i100m900", 3, 0, 1, 2, 3);
        // both sides; who is behind one that is up already is not in the way
        ordersAre("k...m100m100m100", 2, 0, 1, 2);
        ordersAre("k...n100n100n100", 6, 0, 1, 2);
        ordersAre("k...t100n100t100", 4, 1, 0, 2);
        ordersAre("k...n100m100n100", 2, 0, 2, 1);
        ordersAre("k......n100n100n100n100n100n100", 15, 0, 1, 2, 3, 4, 5);
    }

    private static void upInOrder() {
        Sentences.of("Promise 36", "The order in which all who are IN get up, one behind the other, so that least is in the way");
        ordersAre("k..m100", 0, 0);
        ordersAre("k......m100t100n100n100t100m100", 1 + 2 + 3 + 2 + 1, 2, 1, 0, 3, 4, 5);
        ordersAre("k......n100t100m100m100t100n100", 2 + 1 + 1 + 1 + 2, 0, 1, 2, 5, 4, 3);
        Sentences.of("Promise 36", "(the first such order),");
        // whoever is in nobody's way goes as its number says
        ordersAre("k.....m100m100m100m100m100", 4, 0, 1, 2, 3, 4);
        ordersAre("k....m100t100m100t100", 3, 1, 0, 3, 2);
        Trial x = Trial.ofDeck("k.......m100t100n100m100").is(5, "hang(0, 5)");
        x.is(3, "up(0, 1)").rowIs(1, 0, 2, 1, 3).is(1, "change(0, 3)").is(3, "up(0, 1)").rowIs(1, 2, 0, 1, 3);
        Trial.ofDeck("k...m100m100m100").is(1, "change(0, 1)").is(2, "up(0, 0)").rowIs(0, 0, 1, 2);
        // man 1 waits for man 0, who waits for man 2
        Trial.ofDeck("k...t100m100n100").is(1, "change(0, 1)").is(3, "up(0, 0)").rowIs(0, 2, 0, 1);
    }

    private static void upByThoseWhoAreIn() {
        Sentences.of("Promise 36", "all who are IN get up");
        Trial x = Trial.ofDeck("k....m100t100n110m100").is(4, "up(0, 0)").rowIs(0, 2, 1, 0, 3).is(1, "up(2, 0)").rowIs(0, 1, 0, 3)
            .is(0, "up(1, 0)").rowIs(0, 2);
        x.is(1, "down(1)").is(1, "up(0, 0)").rowIs(0, 0, 2, 3).is(0, "down(0)").is(2, "down(2)").is(3, "down(3)").is(0, "up(0, 0)")
            .rowIs(0);
        Trial.ofDeck("k..m100m100").is(0, "up(1, 0)").rowIs(0).is(1, "up(2, 0)").rowIs(0, 0, 1).is(1, "up(0, 0)").rowIs(0, 0, 1);
        Trial.ofDeck("k....m100m100").is(3, "hang(1, 3)").is(0, "up(0, 0)").rowIs(0, 0, 1);
    }

    private static void upComesToARow() {
        Sentences.of("Promise 36", "comes to a ROW (anew): how much.");
        for (int r = 0; r < 6; r++) {
            Trial x = Trial.ofDeck("k..m100n100").is(1, "up(0, " + r + ")").rowIs(r, 1, 0).is(1, "count(6)")
                .is(40, "row(" + r + ", 40)").is(1, "up(0, " + r + ")").rowIs(r, 1, 0);
            x.is(0, "row(" + r + ", 0)").is(1, "up(0, " + r + ")").rowIs(r, 1, 0).is(0, "up(1, " + r + ")").rowIs(r).is(1, "count(6)");
        }
        // aside: nobody is up behind it
        Trial y = Trial.ofDeck("k..m100n100").row(1, 7, 8, 9).asks(1, 9, "at(1, 2)").is(1, "up(0, 0)").is(9, "asked()").hooksAre(0, 1)
            .is(0, "count(2)").rowIs(1, 7, 8, 9);
        y.is(0, "upper()").is(1, "lower()").is(2, "count(3)");
    }

    private static void refusesGettingUp() {
        Sentences.of("Promise 36", "BAD;");
        Trial x = Trial.ofDeck("k..m100n100").row(0, 7);
        for (String none : NO_ROWS) x.bad("up(0, " + none + ")");
        for (String none : NO_WHEN) x.bad("up(" + none + ", 0)");
        x.bad("up(3, 6)").rowIs(0, 7).is(1, "count(6)").is(1, "up(0, 5)");
        Sentences.of("Promise 36", "STATE: no MEN.");
        Trial none = new Trial().row(0, 7).state("up(0, 0)").state("up(2, 5)").rowIs(0, 7).bad("up(3, 0)").bad("up(0, 6)")
            .bad("up(-1, 0)").bad("up(0, -1)").is(1, "count(6)");
        none.deck("k..m100").is(0, "down(0)").is(0, "up(0, 0)").rowIs(0).asks(1, NONE, "man(0, 4)");
    }
}
