import java.io.IOException;
import java.lang.reflect.Field;
import java.lang.reflect.Method;
import java.lang.reflect.Modifier;
import java.nio.file.Files;
import java.nio.file.Path;
import java.util.ArrayList;
import java.util.LinkedHashSet;
import java.util.List;
import java.util.Map;
import java.util.Set;
import java.util.TreeMap;
import java.util.TreeSet;
import java.util.regex.Matcher;
import java.util.regex.Pattern;
import java.util.stream.Stream;

/** README.md tells the truth: its run of calls answers as it says, its tables name what there is. */
public final class ReadmeTest {
    private static final String EACH_SIGN = "for (int i = 0; i < signs.length(); i++) ";
    private static final Pattern ANSWERED = Pattern.compile("(" + Pattern.quote(EACH_SIGN) + ")?x\\.(\\w+\\(.*?\\));\\s*// (-?\\d+)(: .*)?");
    private static final Pattern SIGNS = Pattern.compile("String signs = \"(.*)\";");
    private static final String NEW = "HammockDeck x = new HammockDeck();";
    private static final Pattern CALL_ROW = Pattern.compile("\\| `(\\w+)\\((.*?)\\)` \\| .* \\|(.*)\\|");
    private static final Pattern CONSTANT_ROW = Pattern.compile("\\| `([A-Z]+)` \\| (-?\\d+) \\| .* \\|");
    private static final Pattern FINDING_ROW = Pattern.compile("\\| (\\d+) \\| ([A-Z]+) \\| .* \\|");
    private static final Pattern REFUSAL = Pattern.compile("\\b(BAD|FULL|STATE|SPENT|NOTHING|BEYOND|UNLIKE|NOUGHT|SIZE)\\b");
    private static final Map<String, Integer> FINDINGS = Map.of("NOTHING", Trial.NOTHING, "BEYOND", Trial.BEYOND,
        "UNLIKE", Trial.UNLIKE, "NOUGHT", Trial.NOUGHT, "SIZE", Trial.SIZE);

    private static Trial x = null;
    private static String signs = "";
    private static final Set<String> SHOWN = new TreeSet<>();

    public static void main(String[] args) throws IOException, IllegalAccessException {
        Path readme = Path.of(System.getProperty("readme", "README.md"));
        List<String> lines = Files.readAllLines(readme);
        runs(lines);
        constants(lines);
        findings(lines);
        calls(lines);
        tests(readme, lines);
        Due.end();
    }

    // the run of calls

    private static void runs(List<String> lines) {
        boolean within = false;
        for (int i = 0; i < lines.size(); i++) {
            String line = lines.get(i);
            Due.about("README.md, line " + (i + 1) + ": ");
            if (within && !line.equals("```") && !line.isBlank()) statement(line);
            if (line.startsWith("```")) within = line.equals("```java");
        }
        Due.about("README.md: ");
        for (String shown : new String[] {"asked", "upper", "lower", "finding", "deck", "-1", "-3", "-4", "-9"}) {
            Due.isTrue("the run of calls shows " + shown, SHOWN.contains(shown));
        }
    }

    /** A line of the run: one that this test can't make itself is wrong, and so is a call without its answer. */
    private static void statement(String line) {
        Matcher text = SIGNS.matcher(line);
        Matcher call = ANSWERED.matcher(line);
        if (line.equals(NEW)) x = new Trial();
        else if (text.matches()) signs = text.group(1);
        else if (call.matches() && x != null) answered(call);
        else Due.wrong("no line of a run: " + line);
    }

    private static void answered(Matcher call) {
        long answer = Long.parseLong(call.group(3));
        String written = call.group(2).replace("signs.length()", Integer.toString(signs.length()));
        SHOWN.add(written.substring(0, written.indexOf('(')));
        SHOWN.add(call.group(3));
        if (call.group(1) == null) x.is(answer, written);
        for (int i = 0; call.group(1) != null && i < signs.length(); i++) {
            String sign = Integer.toString(signs.charAt(i));
            x.is(answer, written.replace("signs.charAt(i)", sign).replaceAll("\\bi\\b", Integer.toString(i)));
        }
    }

    // the tables

    private static List<Matcher> rows(Pattern form, List<String> lines) {
        List<Matcher> rows = new ArrayList<>();
        for (String line : lines) {
            Matcher row = form.matcher(line);
            if (row.matches()) rows.add(row);
        }
        return rows;
    }

    private static void constants(List<String> lines) throws IllegalAccessException {
        Map<String, Integer> named = new TreeMap<>();
        for (Matcher row : rows(CONSTANT_ROW, lines)) named.put(row.group(1), Integer.parseInt(row.group(2)));
        Map<String, Integer> there = new TreeMap<>();
        for (Field field : HammockDeck.class.getFields()) there.put(field.getName(), field.getInt(null));
        Due.isTrue("the constants " + named + " are " + there, named.equals(there));
    }

    private static void findings(List<String> lines) {
        Map<String, Integer> named = new TreeMap<>();
        for (Matcher row : rows(FINDING_ROW, lines)) named.put(row.group(2), Integer.parseInt(row.group(1)));
        Due.isTrue("the findings " + named + " are " + FINDINGS, named.equals(FINDINGS));
    }

    private static void calls(List<String> lines) throws IOException {
        Path path = Path.of(System.getProperty("document", "../shared/DOC.md"));
        String document = Files.exists(path) ? Files.readString(path) : "";
        List<String> named = new ArrayList<>();
        for (Matcher row : rows(CALL_ROW, lines)) {
            String name = row.group(1);
            named.add(name + " " + (row.group(2).isEmpty() ? 0 : row.group(2).split(",").length));
            if (!document.isEmpty()) {
                Due.isTrue(name + " is refused by" + row.group(3) + "as its promise says: " + refusals(promise(name, document)),
                    refusals(row.group(3)).equals(refusals(promise(name, document))));
            }
        }
        List<String> there = new ArrayList<>();
        for (Method method : HammockDeck.class.getDeclaredMethods()) {
            if (Modifier.isPublic(method.getModifiers())) there.add(method.getName() + " " + method.getParameterCount());
        }
        named.sort(null);
        there.sort(null);
        Due.isTrue("the calls " + named + " are " + there, named.equals(there));
    }

    private static String promise(String name, String document) {
        Matcher promise = Pattern.compile("(?s)## Promise \\d+: " + name + "\n(.*?)\n## ").matcher(document);
        return promise.find() ? promise.group(1) : "none";
    }

    /** In the order in which they are told first, which is that in which they are tried. */
    private static List<String> refusals(String words) {
        Set<String> refusals = new LinkedHashSet<>();
        Matcher refusal = REFUSAL.matcher(words);
        while (refusal.find()) refusals.add(refusal.group());
        return new ArrayList<>(refusals);
    }

    private static void tests(Path readme, List<String> lines) throws IOException {
        String all = String.join("\n", lines);
        Path folder = readme.toAbsolutePath().resolveSibling("src/test/java");
        try (Stream<Path> files = Files.list(folder)) {
            for (Path file : files.sorted().toList()) {
                String name = file.getFileName().toString().replace(".java", "");
                Due.isTrue(name + " is told of", Pattern.compile("\\b" + name + "\\b").matcher(all).find());
            }
        }
    }
}
