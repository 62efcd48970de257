import java.io.IOException;

/** Promises 15 to 22, sentence by sentence: deeds, undone and kept. */
public final class DeedsEdgesTest {
    private static final int NONE = Trial.NONE;
    private static final String THREE = "k....m100t200s900";
    private static final String[] NO_MEN = {"-1", "3", "4", "MIN", "MAX"};
    private static final String[] NO_WHEN = {"-1", "3", "MIN", "MAX"};

    public static void main(String[] args) throws IOException {
        hang();
        refusesHanging();
        down();
        change();
        refusesChanging();
        line();
        refusesLines();
        night();
        undo();
        undoEach();
        undoOfSixty();
        keep();
        keepSixty();
        on();
        onWithItsDeeds();
        refusesKeeping();
        Sentences.end("Promise 15", "Promise 16", "Promise 17", "Promise 18", "Promise 19", "Promise 20", "Promise 21", "Promise 22");
    }

    private static Trial three() {
        return Trial.ofDeck(THREE);
    }

    private static void hang() {
        Sentences.of("Promise 15", "A MAN is HUNG at a HOOK (from wherever): the HOOK.");
        Trial x = three().is(3, "hang(0, 3)").hooksAre(3, 1, 2).asks(1, NONE, "hook(0, 1)").asks(1, 0, "hook(3, 1)").is(0, "hang(0, 0)")
            .hooksAre(0, 1, 2);
        x.is(1, "down(1)").is(3, "hang(1, 3)").hooksAre(0, 3, 2).is(1, "hang(2, 1)").is(2, "hang(0, 2)").hooksAre(2, 3, 1)
            .is(6, "count(2)");
        x.asks(1, NONE, "hook(0, 1)").is(3, "count(3)").tiredAre(0, 0, 0).asks(1, 1, "man(0, 1)");
        Trial.ofDeck("k.......m100").is(6, "hang(0, 6)").is(0, "hang(0, 0)");
    }

    private static void refusesHanging() {
        Sentences.of("Promise 15", "BAD;");
        Trial x = three();
        for (String none : NO_MEN) x.bad("hang(" + none + ", 3)");
        for (String none : new String[] {"-1", "4", "5", "-9", "MIN", "MAX"}) x.bad("hang(0, " + none + ")");
        x.is(3, "hang(2, 3)");
        new Trial().bad("hang(0, 0)");
        Sentences.of("Promise 15", "STATE: another one hangs there, or it does;");
        Trial y = three().state("hang(0, 1)").state("hang(0, 2)").state("hang(0, 0)").state("hang(2, 2)").is(0, "down(0)")
            .state("hang(0, 1)").is(0, "hang(0, 0)");
        y.state("hang(0, 0)").is(1, "down(1)").is(1, "hang(0, 1)").state("hang(1, 1)").is(0, "hang(1, 0)");
        Sentences.of("Promise 15", "FULL: 60 DEEDS.");
        three().deeds(60).full("hang(0, 3)").hooksAre(0, 1, 2).is(60, "count(2)").is(1, "undo(59)").is(3, "hang(0, 3)").is(60, "count(2)");
        Sentences.of("Promise 15", "(FULL last.)");
        Trial z = three().is(2, "down(2)").deeds(59).state("hang(0, 0)").state("hang(0, 1)").state("hang(2, 0)").bad("hang(3, 3)")
            .bad("hang(0, 4)");
        z.full("hang(2, 2)").full("hang(2, 3)");
    }

    private static void down() {
        Sentences.of("Promise 16", "A MAN is taken DOWN: the HOOK at which it hung.");
        Trial x = three().is(2, "down(2)").is(0, "down(0)").hooksAre(NONE, 1, NONE).asks(1, NONE, "hook(0, 1)").is(1, "count(3)")
            .is(3, "hang(0, 3)");
        x.is(3, "down(0)").asks(1, NONE, "hook(3, 1)").is(1, "down(1)").is(0, "count(3)").is(3, "count(0)").is(5, "count(2)");
        Sentences.of("Promise 16", "BAD;");
        Trial y = three();
        for (String none : NO_MEN) y.bad("down(" + none + ")");
        new Trial().bad("down(0)");
        Sentences.of("Promise 16", "STATE: nowhere;");
        y.is(1, "down(1)").state("down(1)").is(0, "down(0)").state("down(0)").state("down(1)").is(3, "hang(1, 3)").is(3, "down(1)");
        Sentences.of("Promise 16", "FULL.");
        three().deeds(59).is(2, "down(2)").full("down(0)").hooksAre(0, 1, NONE).is(1, "undo(59)").is(0, "down(0)").full("down(2)");
        Sentences.of("Promise 16", "(FULL last.)");
        three().is(2, "down(2)").deeds(59).state("down(2)").bad("down(3)").bad("down(-1)").full("down(0)");
    }

    private static void change() {
        Sentences.of("Promise 17", "Two CHANGE their HOOKS (one may hang nowhere): 1.");
        Trial x = three().is(1, "change(0, 2)").hooksAre(2, 1, 0).asks(1, 2, "hook(0, 1)").asks(1, 0, "hook(2, 1)")
            .is(1, "change(2, 0)").hooksAre(0, 1, 2);
        x.is(1, "down(1)").is(1, "change(0, 1)").hooksAre(NONE, 0, 2).asks(1, 1, "hook(0, 1)").is(1, "change(0, 1)").hooksAre(0, NONE, 2);
        x.asks(1, 0, "hook(0, 1)").asks(1, NONE, "hook(1, 1)").is(1, "change(1, 2)").hooksAre(0, 2, NONE).is(2, "count(3)")
            .is(6, "count(2)");
        Trial.ofDeck("k..m100m100").is(1, "change(0, 1)").hooksAre(1, 0).is(1, "change(0, 1)").hooksAre(0, 1);
    }

    private static void refusesChanging() {
        Sentences.of("Promise 17", "BAD: also the same;");
        Trial x = three();
        for (int m = 0; m < 3; m++) x.bad("change(" + m + ", " + m + ")");
        for (String none : NO_MEN) x.bad("change(" + none + ", 0)").bad("change(0, " + none + ")");
        x.bad("change(-1, -1)").bad("change(3, 3)").is(0, "down(0)").bad("change(0, 0)").hooksAre(NONE, 1, 2);
        new Trial().bad("change(0, 1)");
        Trial.ofDeck("k..m100").bad("change(0, 1)").bad("change(0, 0)");
        Sentences.of("Promise 17", "STATE: neither hangs;");
        Trial y = three().is(0, "down(0)").is(2, "down(2)").state("change(0, 2)").state("change(2, 0)").is(1, "change(0, 1)")
            .state("change(2, 1)").hooksAre(1, NONE, NONE);
        Sentences.of("Promise 17", "FULL.");
        three().deeds(59).is(1, "change(0, 1)").full("change(0, 1)").hooksAre(1, 0, 2).is(1, "undo(59)").is(1, "change(1, 2)")
            .full("change(1, 2)");
        Sentences.of("Promise 17", "(FULL last.)");
        three().is(2, "down(2)").is(1, "down(1)").deeds(58).state("change(1, 2)").bad("change(1, 1)").bad("change(0, 3)")
            .full("change(0, 1)");
    }

    private static void line() {
        Sentences.of("Promise 18", "The LINE of a MAN is v (1 .. 9): what it was.");
        Trial x = three().is(1, "line(0, 2)").is(2, "line(0, 9)").is(9, "line(0, 1)").is(1, "line(0, 8)").asks(1, 8, "man(0, 1)")
            .is(9, "line(2, 1)").asks(1, 1, "man(2, 1)");
        x.asks(1, 2, "man(1, 1)").is(1, "down(1)").is(2, "line(1, 5)").asks(1, 5, "man(1, 1)").hooksAre(0, NONE, 2).is(7, "count(2)");
        Trial y = Trial.ofDeck("k..m500");
        for (int v = 1; v <= 9; v++) {
            if (v != 5) y.is(5, "line(0, " + v + ")").asks(1, v, "man(0, 1)").is(v, "line(0, 5)");
        }
    }

    private static void refusesLines() {
        Sentences.of("Promise 18", "BAD;");
        Trial x = three();
        for (String none : NO_MEN) x.bad("line(" + none + ", 5)");
        for (String none : new String[] {"0", "10", "-1", "11", "MIN", "MAX"}) x.bad("line(0, " + none + ")");
        new Trial().bad("line(0, 1)");
        Sentences.of("Promise 18", "STATE: it is so;");
        x.state("line(0, 1)").state("line(2, 9)").is(1, "line(0, 9)").state("line(0, 9)").is(9, "line(0, 1)").state("line(0, 1)")
            .is(0, "down(0)").state("line(0, 1)");
        Sentences.of("Promise 18", "FULL.");
        three().deeds(59).is(2, "line(1, 3)").full("line(1, 2)").asks(1, 3, "man(1, 1)").is(1, "undo(59)").is(2, "line(1, 9)")
            .full("line(1, 1)");
        Sentences.of("Promise 18", "(FULL last.)");
        three().deeds(60).state("line(0, 1)").state("line(1, 2)").bad("line(0, 0)").bad("line(0, 10)").bad("line(3, 1)").full("line(0, 2)");
    }

    private static void night() {
        Sentences.of("Promise 19", "A NIGHT, WHEN as told: by how much all are more TIRED, together.");
        // watch 0 up: man 1 alone is in; watch 1 up: men 0 and 2, a hook apart
        Trial x = Trial.ofDeck("kdl.m100m410m900").is(4 + 11 + 5, "night(0)").tiredAre(4, 11, 5).is(3, "night(1)").tiredAre(4, 14, 5)
            .is(1, "night(2)");
        x.tiredAre(5, 14, 5).is(3, "count(2)");
        // none in, none woken: a night all the same
        Trial.ofDeck("kl.m110").is(0, "night(2)").is(1, "count(2)").is(0, "down(0)").is(0, "night(0)").is(3, "count(2)").tiredAre(0);
        // as tired as can be: by what is still more, not by how much one is woken
        Trial y = Trial.ofDeck("k.l.n100i900n100").is(66, "night(0)").is(66, "night(0)").is(10 + 7 + 10, "night(0)")
            .is(10 + 0 + 10, "night(0)");
        Sentences.of("Promise 19", "BAD;");
        Trial z = three();
        for (String none : NO_WHEN) z.bad("night(" + none + ")");
        Sentences.of("Promise 19", "STATE: no MEN;");
        Trial none = new Trial().state("night(0)").state("night(1)").state("night(2)");
        none.deck("k..m100").is(0, "night(0)");
        // men that hang nowhere are men
        Trial.ofDeck("kl.m100").is(0, "down(0)").is(0, "night(0)");
        Sentences.of("Promise 19", "FULL.");
        Trial full = Trial.ofDeck("kl.m100").deeds(59).is(3, "night(0)").full("night(0)").full("night(1)").full("night(2)").tiredAre(3)
            .is(1, "undo(59)").is(3, "night(0)");
        Sentences.of("Promise 19", "(FULL last.)");
        full.bad("night(3)").bad("night(-1)");
        new Trial().bad("night(3)").bad("night(-1)");
    }

    private static void undo() {
        Sentences.of("Promise 20", "DEEDS from number n on (n 0 to how many there are: then 0) are undone: how many.");
        Trial x = three().is(0, "undo(0)").bad("undo(1)").is(3, "hang(0, 3)").is(0, "undo(1)").is(1, "count(2)").bad("undo(2)")
            .is(1, "undo(0)").is(0, "undo(0)").hooksAre(0, 1, 2);
        Trial y = three().deeds(60).is(0, "undo(60)").bad("undo(61)").is(1, "undo(59)").asks(1, 2, "man(0, 1)").bad("undo(60)")
            .is(58, "undo(1)").asks(1, 2, "man(0, 1)");
        y.is(1, "undo(0)").asks(1, 1, "man(0, 1)").is(0, "count(2)").deeds(60).is(60, "undo(0)").is(0, "count(2)");
        new Trial().is(0, "undo(0)").bad("undo(1)").bad("undo(-1)");
        Sentences.of("Promise 20", "BAD.");
        Trial z = three().deeds(3);
        for (String none : new String[] {"-1", "4", "5", "60", "61", "MIN", "MAX"}) z.bad("undo(" + none + ")");
        z.is(3, "count(2)").is(0, "undo(3)").asks(1, 2, "man(0, 1)");
    }

    private static void undoEach() {
        Sentences.of("Promise 20", "DEEDS from number n on");
        // one of each: undone one by one, all is as it was ahead of each
        Trial x = Trial.ofDeck("kl...m100t200s900").is(3, "hang(0, 3)").is(1, "down(1)").is(1, "change(1, 2)").is(1, "line(0, 7)");
        // lines 7 and 2, one tall: 6 each; the lots of seed 5 are 0 and 2
        x.is(12, "night(0)").is(24, "lots(2, 5)");
        x.is(7, "count(2)").is(2, "undo(5)").tiredAre(6, 6, 0).is(1, "undo(4)").tiredAre(0, 0, 0).asks(1, 7, "man(0, 1)");
        x.is(1, "undo(3)").asks(1, 1, "man(0, 1)").hooksAre(3, 2, NONE).is(1, "undo(2)").hooksAre(3, NONE, 2)
            .asks(1, NONE, "hook(1, 1)").asks(1, 2, "hook(2, 1)");
        x.is(1, "undo(1)").hooksAre(3, 1, 2).is(1, "undo(0)").hooksAre(0, 1, 2).asks(1, NONE, "hook(3, 1)").asks(1, 0, "hook(0, 1)");
        // two that both hung: each hook holds whom it held
        Trial v = three().is(1, "change(0, 2)").is(1, "change(1, 0)").is(1, "undo(1)").hooksAre(2, 1, 0).asks(1, 2, "hook(0, 1)")
            .asks(1, 1, "hook(1, 1)").asks(1, 0, "hook(2, 1)");
        v.is(1, "undo(0)").hooksAre(0, 1, 2).asks(1, 0, "hook(0, 1)").asks(1, 1, "hook(1, 1)").asks(1, 2, "hook(2, 1)")
            .asks(1, NONE, "hook(3, 1)");
        // other deeds in place of those undone
        Trial y = three().is(3, "hang(0, 3)").is(2, "line(1, 5)").is(1, "undo(1)").is(2, "line(1, 6)").is(9, "line(2, 8)")
            .is(2, "undo(1)").asks(1, 2, "man(1, 1)");
        y.asks(1, 9, "man(2, 1)").hooksAre(3, 1, 2).is(1, "undo(0)").hooksAre(0, 1, 2);
        // tired as much as can be: what a night didn't add is not taken off
        Trial z = Trial.ofDeck("k.l.n100i900n100").is(66, "night(0)").is(66, "night(0)").is(27, "night(0)").is(20, "night(0)")
            .is(1, "undo(3)").tiredAre(30, 99, 30);
        z.is(1, "undo(2)").tiredAre(20, 92, 20).is(2, "undo(0)").tiredAre(0, 0, 0);
    }

    private static void undoOfSixty() {
        Sentences.of("Promise 20", "(n 0 to how many there are: then 0)");
        Trial x = three().deeds(59).is(9, "line(2, 4)").is(0, "undo(60)").asks(1, 4, "man(2, 1)").asks(1, 2, "man(0, 1)")
            .is(60, "count(2)");
        x.is(1, "undo(59)").asks(1, 9, "man(2, 1)").is(9, "line(2, 5)").is(60, "undo(0)").asks(1, 9, "man(2, 1)").asks(1, 1, "man(0, 1)");
        // the most men at the most hooks: man 5 hangs at hook 0 then, man 0 at hook 6, none at hook 5
        Trial y = Trial.ofDeck("k.......m100m200m300m400m500i600").is(6, "hang(5, 6)").is(1, "change(0, 5)").is(18, "night(0)")
            .tiredAre(0, 5, 2, 2, 1, 8);
        y.is(0, "undo(3)").hooksAre(6, 1, 2, 3, 4, 0).tiredAre(0, 5, 2, 2, 1, 8).is(3, "undo(0)").hooksAre(0, 1, 2, 3, 4, 5)
            .tiredAre(0, 0, 0, 0, 0, 0);
        y.asks(1, 5, "hook(5, 1)").asks(1, 0, "hook(0, 1)").asks(1, NONE, "hook(6, 1)");
    }

    private static void keepSixty() {
        Sentences.of("Promise 21", "how many DEEDS.");
        // the 60th deed is kept, too: a night by which both are tired
        Trial x = Trial.ofDeck("kl.m100m910").deeds(59).is(17, "night(0)").is(60, "keep(1)").is(60, "undo(0)").tiredAre(0, 0);
        x.is(60, "on(1)").tiredAre(10, 7).asks(1, 2, "man(0, 1)").is(1, "undo(59)").tiredAre(0, 0).asks(1, 2, "man(0, 1)")
            .is(1, "undo(58)").asks(1, 1, "man(0, 1)");
        x.is(60, "on(1)").is(0, "undo(60)").tiredAre(10, 7).full("night(0)").is(60, "keep(2)");
        // the most men at the most hooks
        Trial y = Trial.ofDeck("k.......m100m200m300m400m500i600").is(6, "hang(5, 6)").is(1, "change(0, 5)").is(18, "night(0)")
            .is(3, "keep(0)").is(2, "undo(1)").is(3, "on(0)");
        y.hooksAre(6, 1, 2, 3, 4, 0).tiredAre(0, 5, 2, 2, 1, 8).asks(1, 5, "hook(0, 1)").asks(1, NONE, "hook(5, 1)")
            .asks(1, 0, "hook(6, 1)");
    }

    private static void keep() {
        Sentences.of("Promise 21", "The DECK (HOOKS, LINES, how TIRED, DEEDS) is kept in a place (0 .. 2): how many DEEDS.");
        Trial x = three().is(0, "keep(0)").is(1, "count(8)").is(3, "hang(0, 3)").is(1, "keep(1)").is(2, "line(1, 5)").is(2, "keep(2)")
            .is(3, "count(8)");
        x.is(2, "keep(0)").is(3, "count(8)").is(0, "undo(2)").is(2, "undo(0)").is(1, "on(1)").asks(1, 2, "man(1, 1)").hooksAre(3, 1, 2);
        x.is(2, "on(0)").asks(1, 5, "man(1, 1)").is(2, "on(2)").is(2, "undo(0)").hooksAre(0, 1, 2);
        three().deeds(60).is(60, "keep(0)").is(60, "undo(0)").is(60, "on(0)").full("line(0, 2)").is(60, "keep(2)");
        // what is kept is not touched by what comes behind
        Trial y = Trial.ofDeck("kl..m100t200").is(2, "hang(0, 2)").is(2, "line(1, 4)").is(2, "keep(0)");
        y.is(1, "down(1)").is(2, "down(0)").is(4, "line(1, 9)").is(5, "count(2)").is(2, "on(0)").hooksAre(2, 1).asks(1, 4, "man(1, 1)");
        Sentences.of("Promise 21", "BAD;");
        Trial z = three();
        for (String none : new String[] {"-1", "3", "MIN", "MAX"}) z.bad("keep(" + none + ")");
        z.is(0, "count(8)");
        Sentences.of("Promise 21", "STATE: no MEN.");
        Trial none = new Trial().state("keep(0)").state("keep(1)").state("keep(2)").bad("keep(3)").bad("keep(-1)").is(0, "count(8)");
        none.deck("k..m100").is(0, "keep(2)").is(1, "count(8)");
        Trial.ofDeck("k..m100").is(0, "down(0)").is(1, "keep(0)");
    }

    private static void on() {
        Sentences.of("Promise 22", "The DECK is as it was kept: how many DEEDS.");
        Trial x = Trial.ofDeck("kl..m100t200").is(0, "keep(2)").is(2, "hang(0, 2)").is(4, "night(0)").is(2, "line(1, 9)")
            .is(3, "keep(0)").is(18, "lots(3, 1)").is(2, "down(0)");
        x.is(3, "on(0)").hooksAre(2, 1).tiredAre(2, 2).asks(1, 9, "man(1, 1)").is(3, "count(2)").asks(1, NONE, "hook(0, 1)")
            .asks(1, 0, "hook(2, 1)").is(4, "count(4)");
        x.is(0, "on(2)").hooksAre(0, 1).tiredAre(0, 0).asks(1, 2, "man(1, 1)").is(0, "count(2)").is(3, "on(0)").hooksAre(2, 1);
        x.is(3, "on(0)").is(2, "count(8)");
        // men down when it was kept hang nowhere again
        Trial y = three().is(1, "down(1)").is(1, "keep(1)").is(1, "hang(1, 1)").is(0, "down(0)").is(1, "on(1)").hooksAre(0, NONE, 2)
            .asks(1, NONE, "hook(1, 1)").asks(1, 0, "hook(0, 1)");
        Sentences.of("Promise 22", "BAD;");
        for (String none : new String[] {"-1", "3", "MIN", "MAX"}) y.bad("on(" + none + ")");
        new Trial().bad("on(3)").bad("on(-1)");
        Sentences.of("Promise 22", "NOTHING.");
        y.finds(Trial.NOTHING, "on(0)").finds(Trial.NOTHING, "on(2)").is(1, "on(1)");
        new Trial().finds(Trial.NOTHING, "on(0)").finds(Trial.NOTHING, "on(1)").finds(Trial.NOTHING, "on(2)");
        three().is(0, "keep(0)").is(3, "deck(0)").finds(Trial.NOTHING, "on(0)");
    }

    private static void onWithItsDeeds() {
        Sentences.of("Promise 22", "The DECK is as it was kept");
        // its deeds come with it: undone from there, and gone on from
        Trial x = three().is(3, "hang(0, 3)").is(2, "line(1, 5)").is(2, "keep(0)").is(2, "undo(0)").is(9, "line(2, 3)").is(1, "keep(1)")
            .is(2, "on(0)");
        x.is(1, "undo(1)").asks(1, 2, "man(1, 1)").hooksAre(3, 1, 2).is(1, "undo(0)").hooksAre(0, 1, 2).asks(1, 9, "man(2, 1)");
        x.is(2, "on(0)").is(1, "line(0, 6)").is(3, "count(2)").is(2, "on(0)").asks(1, 1, "man(0, 1)").is(1, "on(1)")
            .asks(1, 3, "man(2, 1)").hooksAre(0, 1, 2);
        // full when it was kept, full again; and the other way round
        Trial y = three().deeds(60).is(60, "keep(0)").is(55, "undo(5)").is(5, "keep(1)").is(60, "on(0)").full("night(0)").is(5, "on(1)");
        y.is(3, "hang(0, 3)").is(6, "count(2)").bad("undo(7)").is(60, "on(0)").is(60, "undo(0)").asks(1, 1, "man(0, 1)");
    }

    private static void refusesKeeping() {
        Sentences.of("Promise 22", "BAD; NOTHING.");
        new Trial().bad("on(3)").finds(Trial.NOTHING, "on(2)").state("keep(2)").finds(Trial.NOTHING, "on(2)");
    }
}
