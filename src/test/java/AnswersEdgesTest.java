import java.io.IOException;

/** The terms that hold for all calls: how many calls there are, what is refused and in which order, findings, means, sets. */
public final class AnswersEdgesTest {
    private static final String ANSWERS = "ANSWERS";
    private static final String DECK = "k.dlug.m100t311s402n213";

    // each call with arguments that are well for DECK; which of these are numbers of something (b), so that others are BAD
    private static final String[] CALLS = {
        "row b? 1 3", "lay b?? 0 0 5", "at b? 0 0", "tear b 0", "copy b?b?? 0 0 0 0 0", "mean b 0", "text b? 1 3", "put b?? 0 0 5",
        "fault b 0", "deck b 0", "man bb 0 0", "hook bb 0 0", "mark bb 1 1", "hang bb 0 5", "down b 0", "change bb 0 1", "line bb 0 2",
        "night b 0", "undo b 0", "keep b 0", "on b 0", "neighbours bb 0 0", "woken bb 0 0", "all b 0", "worst b 0", "by bb 0 0",
        "best bb 0 1", "fair bb 0 1", "mixed b 1", "judge bb 2 0", "gain bbb 0 1 0", "calm b 0", "cut bb 0 0", "up bb 0 1",
        "fits b 3", "mid b 0", "lots bb 1 1", "count b 0", "findings b 1"};

    public static void main(String[] args) throws IOException {
        atMost512Calls();
        laterCalls();
        refusals();
        whichComesFirst();
        otherwise();
        changesNothing();
        changesNothingWhenFull();
        changesNothingAtFirst();
        findings();
        means();
        sets();
        Sentences.end("What it is", ANSWERS);
    }

    // how many calls

    private static void atMost512Calls() {
        Sentences.of("What it is", "An object is used for at most 512 calls after it has been made");
        String[] last = {"digest()", "asked()", "best(0, 1)", "mates()", "mid(1)", "lots(20, 7)", "row(5, 40)", "deck(0)", "night(0)", "up(0, 2)",
            "fault(0)", "fits(3)", "keep(2)", "change(0, 3)", "count(7)"};
        for (String call : last) {
            Trial few = Trial.ofDeck(DECK).row(3).is(28, "all(0)");
            Trial most = Trial.ofDeck(DECK).row(3);
            for (int i = 0; most.calls() < Trial.MOST_CALLS - 3; i++) {
                if (i % 50 == 0) most.says("lots(20, " + (i + 1) + ")");
                else if (i % 50 == 49) most.says("undo(0)");
                else most.is(1, "hook(0, 0)");
            }
            most.says("undo(0)");
            most.is(28, "all(0)");
            Due.is("one call is left", Trial.MOST_CALLS - most.calls(), 1);
            most.is(few.says(call), call);
        }
    }

    private static void laterCalls() {
        Sentences.of("What it is", "what later calls answer is free");
        Trial x = Trial.ofDeck(DECK).row(2, 0, 1, 2, 3).row(3);
        while (x.calls() < Trial.MOST_CALLS) x.is(4, "count(0)");
        for (int round = 0; round < 30; round++) {
            // free, but an answer: any() prints what is thrown
            for (String call : CALLS) x.any(filled(call, -1, ""));
            for (String call : new String[] {"mates()", "asked()", "upper()", "lower()", "finding()", "digest()"}) x.any(call);
        }
    }

    // refusals

    private static String filled(String pattern, int place, String instead) {
        String[] words = pattern.split(" ");
        StringBuilder call = new StringBuilder(words[0]).append('(');
        for (int i = 2; i < words.length; i++) {
            if (i > 2) call.append(", ");
            call.append(i - 2 == place ? instead : words[i]);
        }
        return call.append(')').toString();
    }

    private static void refusals() {
        Sentences.of(ANSWERS, "BAD -1 (a number that is none, or not as told)");
        Due.is("BAD", HammockDeck.BAD, -1);
        for (String pattern : CALLS) {
            Trial x = Trial.ofDeck(DECK).row(0, 7, 7).row(2, 0, 1, 2, 3).row(3).is(0, "keep(0)");
            String kinds = pattern.split(" ")[1];
            for (int i = 0; i < kinds.length(); i++) {
                if (kinds.charAt(i) != 'b') continue;
                for (String none : new String[] {"MIN", "-10", "-1", "MAX"}) x.bad(filled(pattern, i, none));
            }
            long answer = x.says(filled(pattern, -1, ""));
            Due.isTrue("with numbers that are some, " + filled(pattern, -1, ""), answer >= 0 || answer == Trial.NONE);
        }
        Sentences.of(ANSWERS, "FULL -2");
        Due.is("FULL", HammockDeck.FULL, -2);
        Trial full = Trial.ofDeck(DECK).deeds(60);
        full.full("hang(0, 5)").full("down(0)").full("change(0, 1)").full("line(0, 2)").full("night(0)").full("lots(1, 1)");
        Sentences.of(ANSWERS, "STATE -4 (not now)");
        Due.is("STATE", HammockDeck.STATE, -4);
        Trial none = new Trial().row(0);
        String[] notNow = {"night(0)", "keep(0)", "best(0, 0)", "fair(0, 0)", "mixed(0)", "judge(0, 0)", "mates()", "up(0, 0)", "fits(0)",
            "mid(0)", "lots(1, 1)"};
        for (String call : notNow) none.state(call);
        none.deck(DECK);
        for (String call : notNow) Due.isTrue("now " + call, none.row(0, 0, 1, 2, 3).says(call) >= 0);
        Sentences.of(ANSWERS, "SPENT -6 (more than told)");
        Due.is("SPENT", HammockDeck.SPENT, -6);
        Sentences.of(ANSWERS, "FINDING -3 (finding() tells which)");
        Due.is("FINDING", HammockDeck.FINDING, -3);
        new Trial().finds(Trial.NOTHING, "at(0, 0)").finds(Trial.SIZE, "row(0, -1)").is(5, "finding()");
        Sentences.of(ANSWERS, "NONE -9");
        Due.is("NONE", HammockDeck.NONE, -9);
        new Trial().none("worst(0)");
    }

    private static void whichComesFirst() {
        Sentences.of(ANSWERS, "Refused is, the first of these that fits, in this order:");
        // BAD ahead of FULL
        Trial full = Trial.ofDeck(DECK).deeds(60);
        for (String call : new String[] {"hang(4, 5)", "hang(0, 6)", "hang(-1, 5)", "hang(0, -1)", "down(4)", "down(-1)", "change(0, 0)",
            "change(0, 4)", "change(-1, 0)", "line(0, 0)", "line(0, 10)", "line(4, 5)", "night(3)", "night(-1)", "lots(0, 1)",
            "lots(21, 1)", "lots(1, 0)"}) full.bad(call);
        // BAD ahead of STATE
        Trial none = new Trial();
        for (String call : new String[] {"night(3)", "keep(3)", "best(3, 0)", "best(0, 6)", "fair(3, 0)", "fair(0, 6)", "mixed(6)",
            "judge(6, 0)", "judge(0, 3)", "up(3, 0)", "up(0, 6)", "fits(6)", "mid(3)", "lots(21, 1)", "lots(1, 0)"}) none.bad(call);
        // STATE ahead of FINDING
        new Trial().state("judge(0, 0)").state("fits(0)").row(0, 3).state("judge(0, 0)").state("fits(0)");
        // BAD ahead of FINDING
        Trial x = Trial.ofDeck(DECK);
        for (String call : new String[] {"row(6, -1)", "lay(6, -1, 0)", "at(-1, -1)", "tear(6)", "copy(6, 0, 0, 0, -1)",
            "copy(0, 9, -1, 0, 1)",
            "mean(-1)", "text(4, -1)", "put(4, -1, 0)", "fault(4)", "deck(-1)", "mark(0, 0)", "mark(4, 1)", "on(3)", "judge(0, 3)",
            "judge(6, 0)", "fits(6)"}) x.bad(call);
    }

    private static void otherwise() {
        Sentences.of(ANSWERS, "unless a call says so otherwise.");
        // FULL last: STATE ahead of it
        Trial.ofDeck(DECK).is(3, "down(3)").is(2, "down(2)").deeds(58).state("hang(0, 0)").state("hang(0, 1)").state("down(2)")
            .state("change(2, 3)").state("line(0, 1)");
        // STATE behind NOTHING
        Trial.ofDeck(DECK).finds(Trial.NOTHING, "deck(1)").text(1, "k").state("deck(1)");
    }

    // what is refused changes nothing

    /** Two decks, kept ones, deeds, rows and texts, of which everything is told, and calls that are refused then. */
    private static Trial rich() {
        Trial x = Trial.ofDeck(DECK).is(5, "hang(0, 5)").is(3, "line(1, 7)").is(2, "keep(0)");
        x.says("night(0)");
        x.is(2, "down(2)").is(4, "keep(1)");
        return x.row(0, 7, -7).row(1).row(2, 0, 1, 2, 3).row(3, 0, 1, 3, 0).text(1, "k. m100").finds(Trial.NOUGHT, "mean(1)")
            .is(1, "mid(0)").asks(1, -7, "at(0, 1)");
    }

    private static final String[] BAD_ON_RICH = {
        "row(6, 3)", "row(-1, 3)", "row(0, 41)", "lay(6, 0, 5)", "at(6, 0)", "tear(6)", "copy(6, 0, 0, 0, 1)", "copy(0, 0, 6, 0, 1)",
        "mean(6)", "text(4, 3)", "text(0, 61)", "put(4, 0, 5)", "fault(4)", "deck(4)", "man(4, 0)", "man(0, 6)", "hook(6, 0)",
        "hook(0, 2)", "mark(4, 1)", "mark(0, 0)", "mark(0, 6)", "hang(4, 0)", "hang(0, 6)", "down(4)", "change(4, 0)", "change(0, 4)",
        "change(0, 0)", "line(4, 1)", "line(0, 0)", "line(0, 10)", "night(3)", "undo(5)", "undo(-1)", "keep(3)", "on(3)",
        "neighbours(4, 0)", "neighbours(0, 3)", "woken(4, 0)", "woken(0, 3)", "all(3)", "worst(3)", "by(4, 0)", "by(0, 3)",
        "best(3, 0)", "best(0, 6)", "fair(3, 0)", "fair(0, 6)", "mixed(6)", "judge(6, 0)", "judge(2, 3)", "gain(4, 0, 0)",
        "gain(0, 4, 0)", "gain(0, 0, 0)", "gain(0, 1, 3)", "calm(3)", "cut(4, 0)", "cut(0, 3)", "up(3, 0)", "up(0, 6)", "fits(6)",
        "mid(3)", "lots(0, 1)", "lots(21, 1)", "lots(1, 0)", "lots(1, MAX)", "count(9)", "findings(0)", "findings(6)"};
    private static final String[] STATE_ON_RICH = {"deck(1)", "hang(0, 5)", "hang(0, 1)", "down(2)", "line(1, 7)"};
    private static final String[] FINDING_ON_RICH = {
        "5 row(0, -1)", "1 lay(4, 0, 5)", "2 lay(0, 2, 5)", "2 lay(0, -1, 5)", "1 at(4, 0)", "2 at(0, 2)", "1 tear(4)",
            "5 copy(0, 0, 2, 0, -1)",
        "1 copy(4, 0, 0, 0, 1)", "1 copy(0, 0, 4, 0, 1)", "2 copy(0, 1, 2, 0, 2)", "2 copy(2, 0, 0, 1, 2)", "1 mean(4)", "4 mean(1)",
        "5 text(0, -1)", "1 put(3, 0, 5)", "2 put(1, 7, 5)", "2 put(1, -1, 5)", "1 fault(3)", "1 deck(3)", "3 mark(0, 1)", "3 mark(1, 4)",
        "1 on(2)", "1 judge(4, 0)", "5 judge(0, 0)", "3 judge(3, 0)", "1 fits(4)"};

    private static void changesNothing() {
        Sentences.of(ANSWERS, "What is refused changes nothing but finding(), findings().");
        String due = rich().held();
        for (int from = 0; from < BAD_ON_RICH.length; from += 17) {
            Trial x = rich();
            for (int i = from; i < Math.min(from + 17, BAD_ON_RICH.length); i++) x.bad(BAD_ON_RICH[i]);
            Due.isTrue("all that is held stays, BAD from " + BAD_ON_RICH[from], x.held().equals(due));
        }
        Trial x = rich();
        for (String call : STATE_ON_RICH) x.state(call);
        Due.isTrue("all that is held stays, STATE", x.held().equals(due));
        for (int from = 0; from < FINDING_ON_RICH.length; from += 14) {
            Trial y = rich();
            for (int i = from; i < Math.min(from + 14, FINDING_ON_RICH.length); i++) {
                y.finds(FINDING_ON_RICH[i].charAt(0) - '0', FINDING_ON_RICH[i].substring(2));
            }
            Due.isTrue("all that is held stays, FINDING from " + FINDING_ON_RICH[from], y.held().equals(due));
        }
        Trial z = rich().row(0, 1).row(5, 3, 0).row(4, 0, 0, -1, 5);
        String dueThen = rich().row(0, 1).row(5, 3, 0).row(4, 0, 0, -1, 5).held();
        z.finds(Trial.SIZE, "fits(0)").finds(Trial.UNLIKE, "fits(5)").finds(Trial.UNLIKE, "fits(4)");
        Due.isTrue("all that is held stays, books", z.held().equals(dueThen));
    }

    private static void changesNothingWhenFull() {
        Trial x = Trial.ofDeck(DECK).is(3, "line(1, 4)").is(1, "keep(1)").deeds(59);
        Trial y = Trial.ofDeck(DECK).is(3, "line(1, 4)").is(1, "keep(1)").deeds(59);
        for (String call : new String[] {"hang(0, 5)", "down(0)", "change(0, 1)", "line(0, 9)", "night(0)", "lots(1, 1)", "lots(20, 5)"}) {
            x.full(call);
        }
        Due.isTrue("all that is held stays, FULL", x.held().equals(y.held()));
    }

    private static void changesNothingAtFirst() {
        Trial x = new Trial();
        for (String call : new String[] {"night(0)", "keep(0)", "best(0, 0)", "fair(0, 0)", "mixed(0)", "judge(0, 0)", "mates()",
            "up(0, 0)",
            "fits(0)", "mid(0)", "lots(1, 1)"}) x.state(call);
        for (String call : new String[] {"at(0, 0)", "lay(0, 0, 1)", "tear(0)", "copy(0, 0, 1, 0, 0)", "mean(0)", "put(0, 0, 1)",
            "fault(0)",
            "deck(0)", "on(0)"}) x.finds(Trial.NOTHING, call);
        Due.isTrue("all that is held stays, at first", x.held().equals(new Trial().held()));
    }

    // findings, means, sets

    private static void findings() {
        Sentences.of(ANSWERS, "FINDINGS: 1 NOTHING (a ROW, a TEXT, a kept DECK that is missing),");
        Trial x = Trial.ofDeck(DECK);
        x.finds(1, "at(5, 0)").finds(1, "put(3, 0, 0)").finds(1, "on(2)").is(3, "findings(1)");
        x.row(5, 1).text(3, " ").is(0, "keep(2)");
        x.is(1, "at(5, 0)").is(1032, "put(3, 0, 0)").is(0, "on(2)").is(3, "findings(1)");
        Sentences.of(ANSWERS, "2 BEYOND (a place that there is not),");
        x.finds(2, "at(5, 1)").finds(2, "at(5, -1)").finds(2, "put(3, 1, 0)").finds(2, "put(3, -1, 0)").finds(2, "copy(5, 0, 5, 1, 1)");
        Sentences.of(ANSWERS, "3 UNLIKE (a MAN of another KIND; a number that is none; two at one HOOK),");
        x.finds(3, "mark(0, 1)");
        x.row(5, 0, 1, 2, 6).finds(3, "judge(5, 0)").row(5, 0, 1, 2, 2).finds(3, "judge(5, 0)").row(5, 3, 0).finds(3, "fits(5)");
        Sentences.of(ANSWERS, "4 NOUGHT (shared among none),");
        new Trial().row(0).finds(4, "mean(0)").row(0, 0).asks(1, 0, "mean(0)");
        Sentences.of(ANSWERS, "5 SIZE (fewer than none; not as many as due).");
        x = Trial.ofDeck(DECK);
        x.finds(5, "row(0, -1)").finds(5, "text(0, -1)").row(0, 0, 1, 2).finds(5, "copy(0, 0, 0, 0, -1)").finds(5, "judge(0, 0)")
            .finds(5, "fits(0)");
    }

    private static void means() {
        Sentences.of(ANSWERS, "Means are told by upper(), lower(), in lowest terms, the lower number above 0 (0 by 1).");
        // one man at 3 hooks: woken by the places alone
        Trial.ofDeck("k...m100").means(0, 1, "mid(0)");
        Trial.ofDeck("k..gm100").means(0, 1, "mid(0)");
        Trial.ofDeck("kd..m100").means(1, 3, "mid(0)");
        Trial.ofDeck("kldum100").means(2, 1, "mid(0)");
        Trial.ofDeck("kl.u.m100").means(5, 4, "mid(0)");
        Trial.ofDeck("kl...d.m100").means(2, 3, "mid(0)");
        Trial.ofDeck("kddddddm100").means(1, 1, "mid(0)").means(0, 1, "mid(1)");
    }

    private static void sets() {
        Sentences.of(ANSWERS, "Sets (of MEN) are told by bits.");
        Trial x = Trial.ofDeck("k.......m100m100m100m100m100m100");
        x.is(2, "neighbours(0, 0)").is(5, "neighbours(1, 0)").is(10, "neighbours(2, 0)").is(20, "neighbours(3, 0)");
        x.is(40, "neighbours(4, 0)").is(16, "neighbours(5, 0)");
        x.is(6, "hang(0, 6)").is(32, "neighbours(0, 0)").is(17, "neighbours(5, 0)").is(4, "neighbours(1, 0)");
        x.is(2, "down(2)").is(0, "neighbours(1, 0)");
    }
}
