import java.io.IOException;
import java.io.UncheckedIOException;
import java.nio.file.Files;
import java.nio.file.Path;
import java.util.LinkedHashMap;
import java.util.Map;
import java.util.regex.Matcher;
import java.util.regex.Pattern;

/** The document: tests quote the sentences that they are of, and each word of it must be quoted by one. */
final class Doc {
    /** What only says again, or groups, what the promises tell one by one. */
    private static final Pattern HEADING = Pattern.compile("An editor of objects by their fields: .*? the very same\\. "
        + "|Ahead of the calls [^:]* the interface says: (---- (shapes|objects|paths|copies|watches)\\.)?");
    private static final Pattern LEFT_OUT = Pattern.compile("[A-Za-z0-9][^_]*");
    private static final Map<String, StringBuilder> LEFT = sections();
    private static final Map<String, String> WHOLE = new LinkedHashMap<>();

    static {
        LEFT.forEach((name, text) -> WHOLE.put(name, text.toString()));
    }

    private Doc() {
    }

    /** The test that says so is of these words of a promise. */
    static void says(int promise, String words) {
        quote("Promise " + promise, words);
    }

    /** The test that says so is of these words ahead of the promises. */
    static void says(String words) {
        quote(WHOLE.get("Terms").contains(words) ? "Terms" : "What it is", words);
    }

    /** Each word has been quoted, so that there is a test of it. */
    static void nothingLeftOut() {
        for (int promise = 1; promise <= 35; promise++) {
            Check.that("the document has promise " + promise, WHOLE.containsKey("Promise " + promise));
        }
        Check.due("sections with tests", WHOLE.size(), 37);
        LEFT.forEach((name, left) -> {
            Matcher words = LEFT_OUT.matcher(left);
            while (words.find()) Check.that(name + ": no test is of '" + words.group() + "'", false);
        });
    }

    private static void quote(String section, String words) {
        int at = WHOLE.get(section).indexOf(words);
        Check.that(section + " says '" + words + "'", at >= 0);
        for (int k = at; at >= 0 && k < at + words.length(); k++) LEFT.get(section).setCharAt(k, '_');
    }

    private static Map<String, StringBuilder> sections() {
        Map<String, StringBuilder> all = new LinkedHashMap<>();
        for (String section : read().split("\n## ")) {
            String name = section.substring(0, section.indexOf('\n')).replaceAll(":.*", "");
            boolean wanted = name.startsWith("Promise") || name.equals("Terms") || name.equals("What it is");
            String text = section.substring(section.indexOf('\n')).replaceAll("```(text)?", " ").replaceFirst("^\\s*`[^`]*`:", "");
            String words = HEADING.matcher(text.replaceAll("\\s+", " ").trim()).replaceAll("");
            if (wanted) all.put(name, new StringBuilder(words));
        }
        return all;
    }

    private static String read() {
        try {
            return Files.readString(Path.of("../shared/DOC.md"));
        } catch (IOException e) {
            throw new UncheckedIOException(e);
        }
    }
}
