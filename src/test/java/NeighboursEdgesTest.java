import java.io.IOException;

/** Promises 23 to 27, sentence by sentence: neighbours, who is woken, how much, by whom. */
public final class NeighboursEdgesTest {
    private static final String[] NO_MEN = {"-1", "4", "5", "MIN", "MAX"};
    private static final String[] NO_WHEN = {"-1", "3", "MIN", "MAX"};
    private static final String FOUR = "k.lu.m100t310s510m900";

    public static void main(String[] args) throws IOException {
        neighbours();
        woken();
        all();
        worst();
        by();
        byNone();
        refusals();
        Sentences.end("Promise 23", "Promise 24", "Promise 25", "Promise 26", "Promise 27");
    }

    private static void neighbours() {
        Sentences.of("Promise 23", "NEIGHBOURS of a MAN (bits; whether it is IN itself or not, if it hangs).");
        // men 0 and 3 are of watch 0, men 1 and 2 of watch 1
        Trial x = Trial.ofDeck(FOUR).is(2, "neighbours(0, 0)").is(5, "neighbours(1, 0)").is(10, "neighbours(2, 0)")
            .is(4, "neighbours(3, 0)");
        x.is(2, "neighbours(0, 1)").is(4, "neighbours(1, 1)").is(2, "neighbours(2, 1)").is(4, "neighbours(3, 1)");
        x.is(0, "neighbours(0, 2)").is(1, "neighbours(1, 2)").is(8, "neighbours(2, 2)").is(0, "neighbours(3, 2)");
        // hanging nowhere: none, and nobody's
        x.is(0, "down(0)").is(0, "neighbours(0, 0)").is(4, "neighbours(1, 0)").is(1, "down(1)").is(0, "neighbours(0, 0)")
            .is(8, "neighbours(2, 0)").is(0, "neighbours(1, 1)");
        x.is(0, "hang(1, 0)").is(0, "neighbours(1, 0)").is(1, "hang(0, 1)").is(6, "neighbours(0, 0)").is(0, "asked()");
        // one man; hooks at both ends
        Trial.ofDeck("k..m100").is(0, "neighbours(0, 0)").is(1, "hang(0, 1)").is(0, "neighbours(0, 0)");
        Trial y = Trial.ofDeck("k.......m100m100m100m100m100m100").is(6, "hang(0, 6)").is(32, "neighbours(0, 0)")
            .is(17, "neighbours(5, 0)").is(4, "neighbours(1, 0)");
    }

    private static void woken() {
        Sentences.of("Promise 24", "How much a MAN is WOKEN (0: it is not IN).");
        Trial x = Trial.ofDeck(FOUR).is(3, "woken(0, 0)").is(11, "woken(1, 0)").is(9, "woken(2, 0)").is(6, "woken(3, 0)");
        x.is(0, "woken(0, 1)").is(8, "woken(1, 1)").is(5, "woken(2, 1)").is(0, "woken(3, 1)");
        x.is(0, "woken(0, 2)").is(0, "woken(1, 2)").is(0, "woken(2, 2)").is(0, "woken(3, 2)").is(0, "asked()");
        // nowhere, or up at a ladder: not at all
        x.is(1, "down(1)").is(0, "woken(1, 0)").is(0, "woken(1, 1)").is(0, "woken(0, 0)").is(6, "woken(2, 0)").is(1, "hang(0, 1)");
        x.is(0, "woken(0, 1)").is(4 + 2 + 3, "woken(0, 0)").is(3, "woken(0, 2)");
        // by a place alone; not less than 0
        Trial.ofDeck("klg.m100").is(3, "woken(0, 0)").is(1, "hang(0, 1)").is(0, "woken(0, 0)");
    }

    private static void all() {
        Sentences.of("Promise 25", "How much all are WOKEN together; how many of these are IN by asked().");
        new Trial().asks(0, 0, "all(0)").asks(0, 0, "all(1)").asks(0, 0, "all(2)");
        Trial x = Trial.ofDeck(FOUR).asks(29, 4, "all(0)").asks(13, 2, "all(1)").asks(0, 2, "all(2)").is(1, "down(1)")
            .asks(12, 3, "all(0)").asks(2, 1, "all(1)");
        x.is(0, "down(0)").is(2, "down(2)").asks(0, 1, "all(0)").asks(0, 0, "all(1)").asks(0, 1, "all(2)").is(3, "down(3)")
            .asks(0, 0, "all(0)");
        Trial.ofDeck("kgg.m100m100m110").asks(0, 3, "all(0)").asks(0, 1, "all(1)").asks(0, 2, "all(2)");
        Trial.ofDeck("kllllllm110m110m110m110m110m110").asks(18, 6, "all(0)").asks(18, 6, "all(1)").asks(0, 0, "all(2)");
    }

    private static void worst() {
        Sentences.of("Promise 26", "Who is WOKEN most (the first); how much by asked().");
        Trial x = Trial.ofDeck(FOUR).asks(1, 11, "worst(0)").asks(1, 8, "worst(1)").asks(0, 0, "worst(2)");
        // of alike ones the first by number, wherever it hangs; of those not woken at all, too
        Trial.ofDeck("k....m100m900m900m100").asks(0, 8, "worst(0)").is(1, "change(0, 3)").asks(0, 8, "worst(0)").is(1, "change(0, 2)")
            .asks(0, 16, "worst(0)");
        Trial.ofDeck("k...m500m500m500").asks(0, 0, "worst(0)").is(0, "down(0)").asks(1, 0, "worst(0)").is(1, "down(1)")
            .asks(2, 0, "worst(0)");
        Trial.ofDeck("k.l.lm500m500m500m500").asks(1, 3, "worst(0)").is(1, "down(1)").asks(3, 3, "worst(0)");
        Trial.ofDeck("k......m500m500m500m500m500m400").asks(4, 1, "worst(0)").is(5, "line(4, 4)").asks(3, 1, "worst(0)")
            .is(4, "line(5, 9)").asks(4, 6, "worst(0)");
        // who is up or hangs nowhere is not the first of those not woken
        Trial.ofDeck("k...m500m510m510").asks(1, 0, "worst(1)").asks(0, 0, "worst(2)");
        Sentences.of("Promise 26", "NONE: nobody is IN.");
        new Trial().none("worst(0)").none("worst(1)").none("worst(2)");
        Trial y = Trial.ofDeck("k.l.m500m500").none("worst(1)").asks(1, 3, "worst(2)").asks(1, 3, "worst(0)").none("worst(1)");
        y.is(1, "down(1)").asks(0, 0, "worst(0)").is(0, "down(0)").none("worst(0)").none("worst(2)").is(0, "asked()");
    }

    private static void by() {
        Sentences.of("Promise 27", "By whom a MAN is WOKEN most: the NEIGHBOUR without whom (taken DOWN) it would be least (of alike ones the first); by how much less by asked().");
        Trial x = Trial.ofDeck(FOUR).asks(2, 5, "by(1, 0)").asks(1, 3, "by(0, 0)").asks(3, 4, "by(2, 0)").asks(2, 6, "by(3, 0)")
            .asks(1, 3, "by(2, 1)").asks(2, 5, "by(1, 1)");
        // alike: the first by number, on whichever side
        Trial.ofDeck("k...m200m300m400").asks(0, 1, "by(1, 0)").is(1, "change(0, 2)").asks(0, 1, "by(1, 0)");
        Trial.ofDeck("k...m300m400m200").is(1, "change(0, 1)").asks(1, 1, "by(0, 0)").is(1, "change(1, 2)").asks(1, 1, "by(0, 0)");
        // by nothing: a neighbour all the same
        Trial.ofDeck("k..m200m200").asks(1, 0, "by(0, 0)").asks(0, 0, "by(1, 0)");
        // the galley takes off what is left: by how much less can be less than what the neighbour brings
        Trial.ofDeck("kg.m200m300").asks(1, 0, "by(0, 0)");
        Trial.ofDeck("kg.m200m400").asks(1, 1, "by(0, 0)");
        Trial.ofDeck("k.g.m200m300m500").asks(2, 2, "by(1, 0)").asks(1, 1, "by(0, 0)");
        Trial.ofDeck("k.g.m200m300m300").asks(0, 0, "by(1, 0)");
        Trial.ofDeck("k.g.m300m300m200").asks(0, 0, "by(1, 0)");
        // of a light one twice, the place's aside
        Trial.ofDeck("k.l.m200i300m500").asks(2, 4, "by(1, 0)").asks(1, 1, "by(0, 0)");
        Trial.ofDeck("k.l.m200i300m500").is(2 * (1 + 2 + 3), "woken(1, 0)").is(3, "count(3)").is(0, "count(2)");
    }

    private static void byNone() {
        Sentences.of("Promise 27", "NONE: it has none, or is not IN.");
        Trial x = Trial.ofDeck(FOUR).asks(3, 4, "by(2, 0)").none("by(0, 2)").none("by(3, 2)").none("by(0, 1)").none("by(3, 1)")
            .none("by(1, 2)").none("by(2, 2)");
        x.is(1, "down(1)").none("by(1, 0)").none("by(1, 1)").none("by(0, 0)").asks(3, 4, "by(2, 0)").none("by(2, 1)");
        Trial.ofDeck("kl.m100").none("by(0, 0)").is(0, "down(0)").none("by(0, 0)");
        // the last hook and the first are no neighbours
        Trial.ofDeck("k...m100m900").is(2, "hang(1, 2)").none("by(0, 0)").none("by(1, 0)");
    }

    private static void refused(String part, String call) {
        Trial x = Trial.ofDeck(FOUR);
        Sentences.of(part, "BAD.");
        for (String none : NO_MEN) x.bad(call + "(" + none + ", 0)");
        for (String none : NO_WHEN) x.bad(call + "(0, " + none + ")");
        x.bad(call + "(4, 3)").is(1, "down(1)").bad(call + "(1, 3)").bad(call + "(1, -1)");
        Due.isTrue(call + "(3, 2)", x.says(call + "(3, 2)") != Trial.BAD);
        new Trial().bad(call + "(0, 0)").bad(call + "(0, 3)");
        Trial.ofDeck("k..m100").bad(call + "(1, 0)");
    }

    private static void refusals() {
        refused("Promise 23", "neighbours");
        refused("Promise 24", "woken");
        Sentences.of("Promise 25", "BAD.");
        Trial x = Trial.ofDeck(FOUR);
        for (String none : NO_WHEN) x.bad("all(" + none + ")");
        new Trial().bad("all(3)").bad("all(-1)");
        Sentences.of("Promise 26", "BAD.");
        for (String none : NO_WHEN) x.bad("worst(" + none + ")");
        // ahead of NONE
        new Trial().bad("worst(3)").bad("worst(-1)");
        refused("Promise 27", "by");
        Trial.ofDeck("k..m100").bad("by(0, 3)").none("by(0, 2)");
    }
}
