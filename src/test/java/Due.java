/** What the tests share: counting answers that are not as due, and decks made by a text. */
final class Due {
    private static int checked = 0;
    private static int wrong = 0;
    private static String about = "";

    private Due() {
    }

    /** What the checks from here on are about: printed ahead of each that is wrong. */
    static void about(String words) {
        about = words;
    }

    static void is(String what, long got, long want) {
        checked++;
        if (got == want) return;
        wrong++;
        System.out.println(about + what + " answered " + got + ", due is " + want);
    }

    static void isTrue(String what, boolean got) {
        is(what, got ? 1 : 0, 1);
    }

    static void wrong(String what) {
        checked++;
        wrong++;
        System.out.println(about + what);
    }

    /** A call's answer, and what asked() tells behind it. */
    static void asks(HammockDeck x, String what, long got, long want, long wantAsked) {
        is(what, got, want);
        is(what + ", asked()", x.asked(), wantAsked);
    }

    /** A call that is refused with a finding, and which. */
    static void finds(HammockDeck x, String what, long got, int finding) {
        is(what, got, HammockDeck.FINDING);
        is(what + ", finding()", x.finding(), finding);
    }

    static void row(HammockDeck x, int r, int... values) {
        is("row", x.row(r, values.length), values.length);
        for (int i = 0; i < values.length; i++) is("lay", x.lay(r, i, values[i]), 1);
    }

    static void rowIs(HammockDeck x, String what, int r, int... values) {
        for (int i = 0; i < values.length; i++) asks(x, what + ", place " + i, x.at(r, i), 1, values[i]);
        is(what + ", no more places", x.at(r, values.length), HammockDeck.FINDING);
    }

    static void text(HammockDeck x, int t, String signs) {
        is("text", x.text(t, signs.length()), signs.length());
        for (int i = 0; i < signs.length(); i++) is("put", x.put(t, i, signs.charAt(i)), 1032);
    }

    static HammockDeck deck(String signs) {
        HammockDeck x = new HammockDeck();
        text(x, 0, signs);
        isTrue("a deck by " + signs, x.deck(0) > 0);
        return x;
    }

    static void end() {
        System.out.println(checked - wrong + " answers as due, " + wrong + " not");
        if (wrong != 0) System.exit(1);
    }
}
