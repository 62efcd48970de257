import java.io.IOException;

/** Terms 2: how much one is woken, deeds, nights, plans. */
public final class WakingTermsEdgesTest {
    private static final String TERMS = "Terms 2";
    private static final int NONE = Trial.NONE;
    private static final String KINDS = "mtsfni";

    public static void main(String[] args) throws IOException {
        byEachNeighbour();
        byLines();
        byKinds();
        byPlaces();
        atLeastNothing();
        lightOnes();
        deeds();
        sixtyDeeds();
        nights();
        plans();
        Sentences.end(TERMS);
    }

    private static void wokenAre(String signs, int... due) {
        Trial x = Trial.ofDeck(signs);
        for (int m = 0; m < due.length; m++) Due.is(signs + ": woken(" + m + ", 0)", x.says("woken(" + m + ", 0)"), due[m]);
    }

    private static void byEachNeighbour() {
        Sentences.of(TERMS, "A MAN who is IN is WOKEN by each NEIGHBOUR:");
        wokenAre("k...m100m400m900", 3, 8, 5);
        wokenAre("k..m100", 0);
        // who is not in is not woken, and wakes nobody: up, nowhere, a hook between
        Trial x = Trial.ofDeck("k....m100m910m400");
        x.is(0, "woken(0, 1)").is(0, "woken(1, 1)").is(0, "woken(0, 2)").is(0, "woken(1, 2)").is(13, "woken(1, 0)");
        x.is(3, "hang(2, 3)").is(8, "woken(1, 0)").is(0, "woken(2, 0)");
        x.is(1, "down(1)").is(0, "woken(1, 0)").is(0, "woken(0, 0)");
        // the first hook and the last are no neighbours
        Trial y = Trial.ofDeck("k.......m100m500m500m500m500m900").is(6, "hang(5, 6)").is(4, "woken(0, 0)").is(0, "woken(5, 0)");
    }

    private static void byLines() {
        Sentences.of(TERMS, "by how much their LINES differ;");
        for (int line = 1; line <= 9; line++) {
            for (int other = 1; other <= 9; other++) {
                int due = Math.max(line, other) - Math.min(line, other);
                wokenAre("k..m" + line + "00m" + other + "00", due, due);
            }
        }
    }

    // how much one of a kind is woken by a neighbour of a kind, on lines alike, both at plain hooks
    private static final int[][] WAKES = {
        {0, 1, 2, 0, 2, 0},
        {1, 2, 3, 1, 3, 1},
        {0, 1, 2, 0, 2, 0},
        {0, 1, 0, 0, 2, 0},
        {2, 3, 4, 2, 4, 2},
        {0, 2, 4, 0, 4, 0}};

    private static void wakes(String kinds) {
        for (char kind : kinds.toCharArray()) {
            for (char other : KINDS.toCharArray()) {
                int m = KINDS.indexOf(kind);
                int k = KINDS.indexOf(other);
                wokenAre("k.." + kind + "500" + other + "500", WAKES[m][k], WAKES[k][m]);
                // on both sides
                wokenAre("k..." + other + "500" + kind + "500" + other + "500", WAKES[k][m], 2 * WAKES[m][k], WAKES[k][m]);
            }
        }
    }

    private static void byKinds() {
        Sentences.of(TERMS, "1 more for each of both that is TALL");
        wokenAre("k..t500m500", 1, 1);
        wokenAre("k..t500t500", 2, 2);
        wakes("mt");
        Sentences.of(TERMS, "(for each that is a GIANT 2 in place of that 1);");
        wokenAre("k..n500m500", 2, 2);
        wokenAre("k..n500t500", 3, 3);
        wokenAre("k..n500n500", 4, 4);
        wakes("n");
        Sentences.of(TERMS, "2 more, if the NEIGHBOUR is a SNORER");
        wokenAre("k..s500m500", 0, 2);
        wokenAre("k..s500s500", 2, 2);
        wokenAre("k...s500m500s500", 0, 4, 0);
        wakes("s");
        Sentences.of(TERMS, "(a DEAF one not by that);");
        wokenAre("k..s500f500", 0, 0);
        wokenAre("k..s500f600", 1, 1);
        wokenAre("k...s500f500n500", 0, 2, 2);
        wakes("f");
    }

    private static void byPlaces() {
        Sentences.of(TERMS, "and by the PLACE of its HOOK: draught 1, ladder 3, pump 2, galley 1 less.");
        wokenAre("k..m500", 0);
        wokenAre("kd.m500", 1);
        wokenAre("kl.m500", 3);
        wokenAre("ku.m500", 2);
        wokenAre("kdlug.m500m500m500m500m500", 1, 3, 2, 0, 0);
        wokenAre("kdlug.m100m900m100m900m100", 9, 19, 18, 15, 8);
        // by its own hook, not by that of the neighbour, nor where nobody hangs
        wokenAre("k.lm500m500", 0, 3);
        wokenAre("k.llllllm500", 0);
        Trial x = Trial.ofDeck("kldm510m500");
        x.is(3, "woken(0, 0)").is(3, "woken(0, 1)").is(0, "woken(0, 2)").is(0, "woken(1, 1)").is(1, "woken(1, 2)");
    }

    private static void atLeastNothing() {
        Sentences.of(TERMS, "All that together, 0 at least, is how much it is WOKEN;");
        wokenAre("kg.m500", 0);
        wokenAre("kg.m500m500", 0, 0);
        wokenAre("kg.m500m600", 0, 1);
        wokenAre("kg.m500m700", 1, 2);
        wokenAre("kgggm500m500m500", 0, 0, 0);
        wokenAre("kg.m500s500", 1, 0);
        wokenAre("kg.f500s500", 0, 0);
        Trial.ofDeck("kgggm500m500m500").asks(0, 3, "all(0)").is(0, "night(0)");
        // the most there is: a light one at a ladder between two giants
        wokenAre("k.l.n100i900n100", 10, 46, 10);
        // a tall one, 8 apart from a giant at either side
        wokenAre("kllln100n900n100", 15, 27, 15);
    }

    private static void lightOnes() {
        Sentences.of(TERMS, "of a LIGHT one twice that.");
        wokenAre("k..i500", 0);
        wokenAre("kd.i500", 2);
        wokenAre("kl.i500i600", 8, 2);
        wokenAre("kg.i500", 0);
        wokenAre("kg.i500m600", 0, 1);
        wokenAre("kg.i500m700", 2, 2);
        wokenAre("k..m500i600", 1, 2);
    }

    private static void deeds() {
        Sentences.of(TERMS, "DEEDS are: a MAN is HUNG, taken DOWN, two CHANGE, a LINE, NIGHTS");
        Trial x = Trial.ofDeck("k...m100t200").is(0, "count(2)");
        x.is(2, "hang(0, 2)").is(1, "count(2)").is(2, "down(0)").is(2, "count(2)").is(1, "change(0, 1)").is(3, "count(2)");
        x.is(1, "line(0, 7)").is(4, "count(2)").is(0, "night(0)").is(5, "count(2)").is(0, "lots(3, 1)").is(8, "count(2)");
        // all else is none
        x.row(0, 0, 1);
        for (String call : new String[] {"keep(0)", "on(0)", "neighbours(0, 0)", "woken(0, 0)", "all(0)", "worst(0)", "by(0, 0)",
            "best(0, 1)",
            "fair(0, 1)", "mixed(1)", "judge(0, 0)", "gain(0, 1, 0)", "calm(0)", "mates()", "cut(0, 0)", "up(0, 1)", "fits(0)", "mid(0)",
            "mark(1, 1)", "man(0, 0)", "hook(0, 0)", "fault(0)", "digest()"}) {
            x.says(call);
            Due.is("behind " + call + " count(2)", x.says("count(2)"), 8);
        }
        x.state("hang(0, 1)").is(8, "count(2)").is(3, "undo(5)").is(5, "count(2)");
    }

    private static void sixtyDeeds() {
        Sentences.of(TERMS, "(60 at most).");
        String[][] last = {{"hang(1, 2)", "hang(1, 1)"}, {"down(1)", "down(0)"}, {"change(0, 1)", "change(0, 1)"}, {"line(1, 9)",
            "line(1, 8)"},
            {"night(0)", "night(0)"}, {"lots(1, 1)", "lots(1, 1)"}};
        for (String[] calls : last) {
            Trial x = Trial.ofDeck("k...m100t200").deeds(59).is(59, "count(2)");
            Due.isTrue("the 60th deed " + calls[0], x.says(calls[0]) >= 0);
            x.is(60, "count(2)").full(calls[1]).is(60, "count(2)").is(1, "undo(59)");
            Due.isTrue("the 60th deed again " + calls[0], x.says(calls[0]) >= 0);
        }
    }

    private static void nights() {
        Sentences.of(TERMS, "A NIGHT makes each who is IN TIRED by how much it is WOKEN");
        Trial.ofDeck("kdlum100t310s510").tiredAre(0, 0, 0).is(4 + 11 + 5, "night(0)").tiredAre(4, 11, 5).is(20, "night(0)")
            .tiredAre(8, 22, 10);
        // six men at seven hooks, all of them, by turns of both watches
        Trial v = Trial.ofDeck("klllllllm100m110m100m110m100m110").is(18, "night(0)").tiredAre(3, 3, 3, 3, 3, 3).is(9, "night(1)")
            .tiredAre(3, 6, 3, 6, 3, 6);
        v.is(9, "night(2)").tiredAre(6, 6, 6, 6, 6, 6);
        Sentences.of(TERMS, "(99 at most);");
        // 98 is no end yet: 14 and 7 a night
        Trial x = Trial.ofDeck("k..i100m800");
        for (int i = 0; i < 7; i++) x.is(21, "night(0)");
        x.tiredAre(98, 49).is(1 + 7, "night(0)").tiredAre(99, 56).is(0 + 7, "night(0)").tiredAre(99, 63);
        // 99 is met: 11 and 10 a night
        Trial y = Trial.ofDeck("kd.m100n900");
        for (int i = 0; i < 9; i++) y.is(21, "night(0)");
        y.tiredAre(99, 90).is(0 + 9, "night(0)").tiredAre(99, 99).is(0, "night(0)").tiredAre(99, 99).is(198, "count(4)");
        // 46 a night: two are well, the third not whole
        Trial z = Trial.ofDeck("k.l.n100i900n100").is(66, "night(0)").is(66, "night(0)").tiredAre(20, 92, 20).is(27, "night(0)")
            .tiredAre(30, 99, 30);
        z.is(1, "undo(2)").tiredAre(20, 92, 20);
        Sentences.of(TERMS, "who is not IN by nothing.");
        Trial u = Trial.ofDeck("kllm100n910").is(3, "night(1)").tiredAre(0, 3).is(3, "night(2)").tiredAre(3, 3);
        u.is(0, "down(0)").is(3, "night(0)").tiredAre(3, 6).is(0, "night(2)").tiredAre(3, 6);
    }

    private static void plans() {
        Sentences.of(TERMS, "A PLAN tells for each MAN its HOOK (unlike),");
        Trial x = Trial.ofDeck("k...m100m100").row(0, 2, 0).is(0, "judge(0, 0)").row(0, 2, 2).finds(Trial.UNLIKE, "judge(0, 0)");
        x.is(0, "best(0, 0)").rowIs(0, 0, 1).row(0).means(6, 1, "fits(0)");
        Trial.ofDeck("k.......m100m100m100m100m100m100").row(0).means(5040, 1, "fits(0)");
        Trial.ofDeck("k......m100m100m100m100m100m100").row(0).means(720, 1, "fits(0)");
        Trial.ofDeck("k..m100m100").row(0).means(2, 1, "fits(0)");
        Trial.ofDeck("k..m100").row(0).means(2, 1, "fits(0)");
        Sentences.of(TERMS, "PLANS go by these, MAN by MAN.");
        // all alike: the first; the first hook of man 0 tells ahead of that of man 1; the very last one
        Trial.ofDeck("k.......m500m500m500m500m500m500").is(0, "best(0, 0)").rowIs(0, 0, 1, 2, 3, 4, 5);
        Trial.ofDeck("k...m100m900").is(0, "best(0, 0)").rowIs(0, 0, 2);
        Trial.ofDeck("kl..m500m500").is(0, "best(0, 0)").rowIs(0, 1, 2);
        Trial.ofDeck("kllllu.m500m500").is(2, "best(0, 0)").rowIs(0, 4, 5);
        Trial.ofDeck("kul.n100m900m910").is(2, "best(2, 0)").rowIs(0, 0, 2, 1);
    }
}
