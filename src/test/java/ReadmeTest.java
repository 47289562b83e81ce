import java.io.IOException;
import java.lang.reflect.Method;
import java.lang.reflect.Modifier;
import java.nio.file.Files;
import java.nio.file.Path;
import java.util.ArrayList;
import java.util.HashMap;
import java.util.List;
import java.util.Map;
import java.util.regex.Matcher;
import java.util.regex.Pattern;

/** The examples of README.md, as one run: each call answers what stands behind it. */
public final class ReadmeTest {
    private static final Pattern EXAMPLES = Pattern.compile("(?s)```java\n(.*?)```");
    private static final Pattern LINE = Pattern.compile("(?:int (\\w+) = )?x\\.(\\w+)\\((.*)\\); +// (-?\\w+)(:.*)?");

    public static void main(String[] args) throws IOException {
        String readme = Files.readString(Path.of("README.md"));
        List<String> calls = new ArrayList<>();
        Map<String, String> names = new HashMap<>();
        Matcher each = EXAMPLES.matcher(readme);
        while (each.find()) {
            for (String line : each.group(1).split("\n")) {
                if (!line.equals("FieldEditor x = new FieldEditor();")) calls.add(call(line, names));
            }
        }
        Story.of(calls.toArray(new String[0]));
        for (Method m : FieldEditor.class.getDeclaredMethods()) {
            if (Modifier.isPublic(m.getModifiers())) Check.that("README.md shows " + m.getName(), readme.contains("x." + m.getName() + "("));
        }
        Check.end();
    }

    /** The line as a story tells it, with numbers for the names. */
    private static String call(String line, Map<String, String> names) {
        Matcher parts = LINE.matcher(line);
        Check.that("'" + line + "' is a call with its answer", parts.matches());
        List<String> given = new ArrayList<>();
        for (String word : parts.group(3).split(", ")) given.add(names.getOrDefault(word, word.replace("FieldEditor.", "")));
        if (parts.group(1) != null) names.put(parts.group(1), parts.group(4));
        return parts.group(2) + "(" + String.join(", ", given) + ") = " + parts.group(4);
    }
}
