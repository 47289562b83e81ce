import java.io.IOException;
import java.io.UncheckedIOException;
import java.nio.file.Files;
import java.nio.file.Path;
import java.util.LinkedHashMap;
import java.util.Map;
import java.util.regex.Matcher;
import java.util.regex.Pattern;

/** The document: tests quote the sentences that they are of, and what names a bound must be quoted by one. */
final class Doc {
    private static final Pattern BOUND = Pattern.compile(
        "\\b(BAD|NO|FULL|NONE|RANGE|REFUSED|Refused|MISSING|WEAK|LOOP|VETO|empty|wraps|at most|kept|up to)\\b| \\.\\. ");
    private static final Map<String, StringBuilder> LEFT = sections();
    private static final Map<String, String> WHOLE = new LinkedHashMap<>();

    static {
        LEFT.forEach((name, text) -> WHOLE.put(name, text.toString()));
    }

    private Doc() {
    }

    /** The test that says so is of these words of a promise. */
    static void says(int promise, String words) {
        quote("Promise " + promise, words);
    }

    /** The test that says so is of these words ahead of the promises. */
    static void says(String words) {
        quote(WHOLE.get("Terms").contains(words) ? "Terms" : "What it is", words);
    }

    /** Whatever names a bound has been quoted, so that there is a test of it. */
    static void nothingLeftOut() {
        for (int promise = 1; promise <= 35; promise++) {
            String section = "Promise " + promise;
            Check.that(section + " has a test", !LEFT.get(section).toString().equals(WHOLE.get(section)));
        }
        LEFT.forEach((name, left) -> {
            Matcher bound = BOUND.matcher(left);
            while (bound.find()) {
                int from = Math.max(0, bound.start() - 40), to = Math.min(left.length(), bound.end() + 40);
                Check.that(name + ": no test is of '" + left.substring(from, to) + "'", false);
            }
        });
    }

    private static void quote(String section, String words) {
        int at = WHOLE.get(section).indexOf(words);
        Check.that(section + " says '" + words + "'", at >= 0);
        for (int k = at; at >= 0 && k < at + words.length(); k++) LEFT.get(section).setCharAt(k, '_');
    }

    private static Map<String, StringBuilder> sections() {
        Map<String, StringBuilder> all = new LinkedHashMap<>();
        for (String section : read().split("\n## ")) {
            String name = section.substring(0, section.indexOf('\n')).replaceAll(":.*", "");
            boolean wanted = name.startsWith("Promise") || name.equals("Terms") || name.equals("What it is");
            String text = section.substring(section.indexOf('\n')).replaceAll("```(text)?", " ").replaceFirst("^\\s*`[^`]*`:", "");
            if (wanted) all.put(name, new StringBuilder(text.replaceAll("\\s+", " ").trim()));
        }
        return all;
    }

    private static String read() {
        try {
            return Files.readString(Path.of("../shared/DOC.md"));
        } catch (IOException e) {
            throw new UncheckedIOException(e);
        }
    }
}
