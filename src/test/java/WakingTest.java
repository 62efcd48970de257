/** Promises 23 to 27: neighbours, and who wakes whom. */
public final class WakingTest {
    private static final int BAD = -1, NONE = -9;

    public static void main(String[] args) {
        neighbours();
        wokenByLines();
        wokenByKinds();
        wokenByPlaces();
        wokenAtSea();
        all();
        worst();
        wokenMostBy();
        wokenMostByAlikeOnes();
        Due.end();
    }

    private static void neighbours() {
        HammockDeck x = Due.deck("k.....m100m110m100m110");
        Due.is("at the end", x.neighbours(0, 0), 2);
        Due.is("between two", x.neighbours(1, 0), 5);
        Due.is("beside a free hook", x.neighbours(3, 0), 4);
        Due.is("watch 0 up, itself too", x.neighbours(0, 1), 2);
        Due.is("watch 0 up", x.neighbours(1, 1), 0);
        Due.is("watch 1 up", x.neighbours(1, 2), 5);
        Due.is("watch 1 up", x.neighbours(2, 2), 0);
        Due.is("down", x.down(1), 1);
        Due.is("hangs nowhere", x.neighbours(1, 0), 0);
        Due.is("beside who hangs nowhere", x.neighbours(0, 0), 0);
        Due.is("no such man", x.neighbours(4, 0), BAD);
        Due.is("no such man", x.neighbours(-1, 0), BAD);
        Due.is("no such when", x.neighbours(0, 3), BAD);
        Due.is("no such when", x.neighbours(0, -1), BAD);
    }

    private static void wokenAre(String signs, int... due) {
        HammockDeck x = Due.deck(signs);
        for (int m = 0; m < due.length; m++) Due.is("woken in " + signs + ", " + m, x.woken(m, 0), due[m]);
    }

    private static void wokenByLines() {
        wokenAre("k...m100m900m400", 8, 13, 5);
        wokenAre("k...m500m500m500", 0, 0, 0);
        wokenAre("k....m100", 0);
        HammockDeck x = Due.deck("k...m100m900");
        Due.is("hang", x.hang(1, 2), 2);
        Due.is("a hook between", x.woken(0, 0), 0);
        Due.is("a hook between", x.woken(1, 0), 0);
        Due.is("no such man", x.woken(2, 0), BAD);
        Due.is("no such man", x.woken(-1, 0), BAD);
        Due.is("no such when", x.woken(0, 3), BAD);
        Due.is("no such when", x.woken(0, -1), BAD);
    }

    private static void wokenByKinds() {
        wokenAre("k..m500t500", 1, 1);
        wokenAre("k..t500t500", 2, 2);
        wokenAre("k..m500n500", 2, 2);
        wokenAre("k..t500n500", 3, 3);
        wokenAre("k..n500n500", 4, 4);
        wokenAre("k..m500s500", 2, 0);
        wokenAre("k..s500s500", 2, 2);
        wokenAre("k..f500s500", 0, 0);
        wokenAre("k..i500s600", 6, 1);
        wokenAre("k..i500n600", 6, 3);
        wokenAre("k...s500m500s500", 0, 4, 0);
        wokenAre("k...s500f500n500", 0, 2, 2);
    }

    private static void wokenByPlaces() {
        wokenAre("kdlugm100", 1);
        wokenAre("kldugm100", 3);
        wokenAre("kuldgm100", 2);
        wokenAre("kg.m100", 0);
        wokenAre("kggm100m100", 0, 0);
        wokenAre("kggm100m200", 0, 0);
        wokenAre("kggm100m300", 1, 1);
        wokenAre("kddi100i200", 4, 4);
        wokenAre("kggi100i100", 0, 0);
        wokenAre("kggi100i300", 2, 2);
        wokenAre("kdlugm100m100m100m100", 1, 3, 2, 0);
    }

    private static void wokenAtSea() {
        HammockDeck x = Due.deck("k.lu.m100t310s510m900");
        Due.is("up itself", x.woken(0, 1), 0);
        Due.is("without watch 0", x.woken(1, 1), 2 + 1 + 2 + 3);
        Due.is("without watch 0", x.woken(2, 1), 2 + 1 + 2);
        Due.is("without watch 1", x.woken(0, 2), 0);
        Due.is("up itself, at a ladder", x.woken(1, 2), 0);
        Due.is("down", x.down(2), 2);
        Due.is("hangs nowhere", x.woken(2, 1), 0);
        Due.is("beside who hangs nowhere", x.woken(1, 1), 3);
    }

    private static void all() {
        HammockDeck none = new HammockDeck();
        Due.asks(none, "no men", none.all(0), 0, 0);
        Due.is("no such when", none.all(3), BAD);
        HammockDeck x = Due.deck("k.lu.m100t310s510m900");
        Due.asks(x, "in port", x.all(0), 3 + 11 + 9 + 6, 4);
        Due.asks(x, "watch 0 up", x.all(1), 8 + 5, 2);
        Due.asks(x, "watch 1 up", x.all(2), 0, 2);
        Due.is("no such when", x.all(-1), BAD);
        Due.is("no such when", x.all(3), BAD);
        Due.is("asked() stays", x.asked(), 2);
        Due.is("down", x.down(1), 1);
        Due.asks(x, "without man 1", x.all(0), 0 + 0 + 6 + 6, 3);
    }

    private static void worst() {
        HammockDeck none = new HammockDeck();
        Due.asks(none, "no men", none.worst(0), NONE, 0);
        HammockDeck x = Due.deck("k.lu.m100t310s510m900");
        Due.asks(x, "in port", x.worst(0), 1, 11);
        Due.asks(x, "watch 0 up", x.worst(1), 1, 8);
        Due.asks(x, "of alike ones the first", x.worst(2), 0, 0);
        Due.is("no such when", x.worst(3), BAD);
        Due.is("no such when", x.worst(-1), BAD);
        HammockDeck y = Due.deck("k....m100m900m900m100");
        Due.asks(y, "the first of four", y.worst(0), 0, 8);
        Due.is("line", y.line(0, 9), 1);
        Due.asks(y, "the first of two", y.worst(0), 2, 8);
        Due.asks(y, "all are up", y.worst(1), NONE, 8);
        HammockDeck z = Due.deck("k..m110m110");
        Due.asks(z, "watch 1 up: none is in", z.worst(2), NONE, 0);
        Due.asks(z, "none woken", z.worst(1), 0, 0);
    }

    private static void wokenMostBy() {
        HammockDeck x = Due.deck("k.lu.m100t310s510m900");
        Due.asks(x, "by the snorer", x.by(1, 0), 2, 5);
        Due.asks(x, "by the only one", x.by(0, 0), 1, 3);
        Due.asks(x, "by the greater difference", x.by(2, 0), 3, 4);
        Due.asks(x, "at sea", x.by(2, 1), 1, 3);
        Due.asks(x, "up itself", x.by(0, 1), NONE, 3);
        Due.asks(x, "has none", x.by(0, 2), NONE, 3);
        Due.is("no such man", x.by(4, 0), BAD);
        Due.is("no such man", x.by(-1, 0), BAD);
        Due.is("no such when", x.by(0, 3), BAD);
        Due.is("no such when", x.by(0, -1), BAD);
        Due.is("down", x.down(1), 1);
        Due.asks(x, "nowhere", x.by(1, 0), NONE, 3);
        Due.asks(x, "no neighbour", x.by(0, 0), NONE, 3);
        Due.asks(x, "beside a free hook", x.by(3, 0), 2, 6);
    }

    private static void wokenMostByAlikeOnes() {
        HammockDeck x = Due.deck("k...m200m300m400");
        Due.asks(x, "alike: the first", x.by(1, 0), 0, 1);
        Due.is("change", x.change(0, 2), 1);
        Due.asks(x, "alike: the first by number", x.by(1, 0), 0, 1);
        HammockDeck y = Due.deck("kg..m200m200m300");
        Due.asks(y, "by none at all, but a neighbour", y.by(0, 0), 1, 0);
        Due.is("change", y.change(1, 2), 1);
        Due.asks(y, "the galley takes it off", y.by(0, 0), 2, 0);
        HammockDeck z = Due.deck("k.g.m200i300m500");
        Due.asks(z, "a light one in the galley", z.by(1, 0), 2, 4);
        Due.is("a light one in the galley", z.woken(1, 0), 4);
    }
}
