import java.lang.reflect.InvocationTargetException;
import java.lang.reflect.Method;
import java.lang.reflect.Modifier;
import java.util.HashMap;
import java.util.Map;
import java.util.regex.Matcher;
import java.util.regex.Pattern;

/**
 * One HammockDeck on trial. Calls are written as they are told, "lay(0, 2, 5)" (MIN and MAX are the ends of an int),
 * so that a wrong answer is printed as the call it was; what a call throws is a wrong answer, too; and a test that
 * makes more than the 512 calls for which the document promises anything is wrong itself.
 */
final class Trial {
    static final int BAD = -1, FULL = -2, FINDING = -3, STATE = -4, NONE = -9;
    static final int NOTHING = 1, BEYOND = 2, UNLIKE = 3, NOUGHT = 4, SIZE = 5;
    static final int MOST_CALLS = 512;
    private static final String[] TOLD = {"asked()", "upper()", "lower()", "digest()", "finding()",
        "findings(1)", "findings(2)", "findings(3)", "findings(4)", "findings(5)"};
    private static final int TOLD_FINDING = 4;
    private static final Pattern CALL = Pattern.compile("(\\w+)\\((.*)\\)");
    private static final Map<String, Method> FACE = face();

    private final HammockDeck deck = new HammockDeck();
    private int calls = 0;
    private long[] latestLook = null;

    private static Map<String, Method> face() {
        Map<String, Method> face = new HashMap<>();
        for (Method method : HammockDeck.class.getDeclaredMethods()) {
            if (Modifier.isPublic(method.getModifiers())) face.put(method.getName(), method);
        }
        return face;
    }

    static Trial ofDeck(String signs) {
        return new Trial().deck(signs);
    }

    int calls() {
        return calls;
    }

    // one call

    private static int number(String word) {
        if (word.equals("MIN")) return Integer.MIN_VALUE;
        return word.equals("MAX") ? Integer.MAX_VALUE : Integer.parseInt(word);
    }

    /** A call that is due to answer something or other, but to answer. */
    long any(String call) {
        calls++;
        latestLook = null;
        Matcher parts = CALL.matcher(call);
        if (!parts.matches() || !FACE.containsKey(parts.group(1))) throw new IllegalArgumentException("no such call: " + call);
        String[] words = parts.group(2).isBlank() ? new String[0] : parts.group(2).split(" *, *");
        Object[] numbers = new Object[words.length];
        for (int i = 0; i < words.length; i++) numbers[i] = number(words[i].trim());
        try {
            return ((Number) FACE.get(parts.group(1)).invoke(deck, numbers)).longValue();
        } catch (InvocationTargetException thrown) {
            Due.wrong(call + " threw " + thrown.getCause());
            return Long.MIN_VALUE;
        } catch (IllegalAccessException hidden) {
            throw new IllegalStateException(hidden);
        }
    }

    long says(String call) {
        long answer = any(call);
        if (calls > MOST_CALLS) Due.wrong(call + " is call " + calls + " of its object: the test itself goes too far");
        return answer;
    }

    /** What a call answers. */
    Trial is(long want, String call) {
        Due.is(call, says(call), want);
        return this;
    }

    /** What a call answers, and what asked() tells behind it. */
    Trial asks(long want, long told, String call) {
        is(want, call);
        Due.is("behind " + call + " asked()", says("asked()"), told);
        return this;
    }

    /** What a call answers, and upper(), lower() behind it. */
    Trial means(long upper, long lower, String call) {
        is(1, call);
        Due.is("behind " + call + " upper()", says("upper()"), upper);
        Due.is("behind " + call + " lower()", says("lower()"), lower);
        return this;
    }

    // refused calls: what is told stays as it is, but for findings

    private long[] look() {
        if (latestLook != null) return latestLook;
        long[] told = new long[TOLD.length];
        for (int i = 0; i < told.length; i++) told[i] = says(TOLD[i]);
        latestLook = told;
        return told;
    }

    private Trial refused(int answer, int finding, String call) {
        long[] before = look().clone();
        is(answer, call);
        long[] after = look();
        if (finding != 0) {
            before[TOLD_FINDING] = finding;
            before[TOLD_FINDING + finding]++;
        }
        for (int i = 0; i < TOLD.length; i++) Due.is("behind " + call + ", refused, " + TOLD[i], after[i], before[i]);
        return this;
    }

    Trial bad(String call) {
        return refused(BAD, 0, call);
    }

    Trial full(String call) {
        return refused(FULL, 0, call);
    }

    Trial state(String call) {
        return refused(STATE, 0, call);
    }

    Trial finds(int finding, String call) {
        return refused(FINDING, finding, call);
    }

    /** An answer NONE tells nothing, either. */
    Trial none(String call) {
        return refused(NONE, 0, call);
    }

    // several calls

    Trial row(int r, int... values) {
        is(values.length, "row(" + r + ", " + values.length + ")");
        for (int i = 0; i < values.length; i++) is(1, "lay(" + r + ", " + i + ", " + values[i] + ")");
        return this;
    }

    /** A row has these places, and no more. */
    Trial rowIs(int r, int... values) {
        for (int i = 0; i < values.length; i++) asks(1, values[i], "at(" + r + ", " + i + ")");
        return is(FINDING, "at(" + r + ", " + values.length + ")");
    }

    Trial text(int t, String signs) {
        is(signs.length(), "text(" + t + ", " + signs.length() + ")");
        for (int i = 0; i < signs.length(); i++) {
            if (signs.charAt(i) != ' ') is(1032, "put(" + t + ", " + i + ", " + (int) signs.charAt(i) + ")");
        }
        return this;
    }

    Trial deck(String signs) {
        text(0, signs);
        Due.isTrue("a deck by " + signs, says("deck(0)") > 0);
        return this;
    }

    /** As many deeds as wanted, the last of which leaves all as it was: the line of man 0, on and back. */
    Trial deeds(int n) {
        int line = lineOf(0);
        int other = line == 9 ? 8 : line + 1;
        for (int i = 0; i < n; i++) is(i % 2 == 0 ? line : other, "line(0, " + (i % 2 == 0 ? other : line) + ")");
        return this;
    }

    private int lineOf(int m) {
        is(1, "man(" + m + ", 1)");
        return (int) says("asked()");
    }

    /** Where the men hang, one behind the other. */
    Trial hooksAre(int... hooks) {
        for (int m = 0; m < hooks.length; m++) asks(1, hooks[m], "man(" + m + ", 4)");
        return this;
    }

    /** How tired the men are, one behind the other. */
    Trial tiredAre(int... tired) {
        for (int m = 0; m < tired.length; m++) asks(1, tired[m], "man(" + m + ", 5)");
        return this;
    }

    /**
     * All that an object holds, told by going back: the deck, behind each of its deeds, and the same of each kept one.
     * It takes the object with it: nothing can be asked of it afterwards but by on().
     */
    String held() {
        StringBuilder all = new StringBuilder(backThroughDeeds());
        for (int k = 0; k < 3; k++) {
            if (says("on(" + k + ")") >= 0) all.append("; kept ").append(k).append(": ").append(backThroughDeeds());
        }
        return all.toString();
    }

    private String backThroughDeeds() {
        StringBuilder all = new StringBuilder();
        for (long n = says("count(2)"); n >= 0; n--) {
            says("undo(" + n + ")");
            all.append(says("digest()")).append(' ');
        }
        return all.toString();
    }
}
