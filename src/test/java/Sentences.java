import java.io.IOException;
import java.nio.file.Files;
import java.nio.file.Path;
import java.util.LinkedHashMap;
import java.util.LinkedHashSet;
import java.util.Map;
import java.util.Set;

/**
 * Which sentence of the document is on trial, and whether every one was. Each test says, by of(), the part of the
 * document ("Promise 6", "Terms 2", ..) and its words; at the end each word of these parts must have been on trial.
 */
final class Sentences {
    private static final Map<String, Set<String>> TRIED = new LinkedHashMap<>();

    private Sentences() {
    }

    static void of(String part, String words) {
        TRIED.computeIfAbsent(part, none -> new LinkedHashSet<>()).add(words);
        Due.about(part + ", \"" + words + "\": ");
    }

    static void end(String... parts) throws IOException {
        Due.about("");
        Path path = Path.of(System.getProperty("document", "../shared/DOC.md"));
        String document = Files.exists(path) ? Files.readString(path).replaceAll("```(text)?", " ").replaceAll("\\s+", " ") : "";
        int tried = 0;
        for (String part : parts) {
            Set<String> all = TRIED.getOrDefault(part, Set.of());
            tried += all.size();
            if (all.isEmpty()) Due.wrong(part + " was not on trial");
            if (!document.isEmpty()) compare(part, textOf(part, document), all);
        }
        System.out.println(tried + " sentences on trial" + (document.isEmpty() ? ", no document to compare them with" : ""));
        Due.end();
    }

    private static void compare(String part, String text, Set<String> all) {
        String left = leftOf(part, text, all);
        // the first part tells, too, what the class is for: one sentence there is a limit
        if (!part.equals("What it is") && left.matches(".*\\w.*")) Due.wrong(part + ": not on trial: " + left);
    }

    private static String between(String document, String from, String to) {
        int begin = document.indexOf(from);
        int end = begin < 0 ? -1 : document.indexOf(to, begin + from.length());
        return end < 0 ? "" : document.substring(begin + from.length(), end);
    }

    private static String textOf(String part, String document) {
        if (part.equals("ANSWERS")) return between(document, "======== ANSWERS.", "======== 1 ");
        if (part.equals("Terms 1")) return between(document, "======== 1 ", "======== 2 ");
        if (part.equals("Terms 2")) return between(document, "======== 2 ", "Ahead of the calls");
        if (part.equals("What it is")) return between(document, "## What it is", "## The public face");
        String text = between(document, "## " + part + ":", " ## ");
        return text.substring(text.indexOf("`:") + 2);
    }

    /** What is left of a part's text when the words that were on trial are taken out. */
    private static String leftOf(String part, String text, Set<String> all) {
        boolean[] taken = new boolean[text.length()];
        for (String words : all) {
            int at = text.indexOf(words);
            if (at < 0) Due.wrong(part + " doesn't say: " + words);
            for (int i = 0; at >= 0 && i < words.length(); i++) taken[at + i] = true;
        }
        StringBuilder left = new StringBuilder();
        for (int i = 0; i < taken.length; i++) left.append(taken[i] ? ' ' : text.charAt(i));
        return left.toString().trim().replaceAll(" +", " ");
    }
}
