import java.io.IOException;
import java.lang.reflect.Field;
import java.lang.reflect.Method;
import java.lang.reflect.Modifier;
import java.nio.file.Files;
import java.nio.file.Path;
import java.util.ArrayList;
import java.util.HashSet;
import java.util.List;
import java.util.Map;
import java.util.Set;
import java.util.TreeMap;
import java.util.regex.Matcher;
import java.util.regex.Pattern;

/** The rules of LANGUAGE.md that can be seen in the class and its text; the numbers are theirs. */
public final class LanguageTest {
    private static final Set<String> LIBRARY = Set.of("length", "add", "get", "set", "remove", "size", "isEmpty", "clear", "clone",
        "arraycopy", "copyOf", "copyOfRange", "fill", "max", "min", "abs", "compare");
    private static final Set<String> KEYWORDS = Set.of("if", "for", "while", "switch", "return");
    private static final Pattern HEAD = Pattern.compile(
        "^(?: {4}| {8})(?:(?:public|private|static|final) )*(?:[\\w\\[\\]<>]+ )?(\\w+)\\([^)]*\\) \\{$");
    private static final Pattern CALL = Pattern.compile("(\\.?)\\b(\\w+)(?:<>)?\\(");
    private static final Pattern COUNTED = Pattern.compile("for \\(int (\\w+) = [^;]+; .*\\b\\1 [<>]=? [^;]+; \\1(\\+\\+|--)\\) .*");
    private static final Pattern OVER_ARRAY = Pattern.compile("for \\(int \\w+ : [\\w.\\[\\]]+\\) .*");

    /** A method's text, its head being the first line; the name of one of a class inside begins with a dot. */
    private record Body(String name, List<String> lines) {
        /** A call with a dot is one of a class inside, one without it of the class that the method is of. */
        Set<String> calls() {
            Set<String> names = new HashSet<>();
            Matcher each = CALL.matcher(String.join("\n", lines.subList(1, lines.size())));
            while (each.find()) {
                boolean inside = name.startsWith(".") || !each.group(1).isEmpty();
                if (!KEYWORDS.contains(each.group(2))) names.add((inside ? "." : "") + each.group(2));
            }
            return names;
        }
    }

    public static void main(String[] args) throws IOException {
        String source = Files.readString(Path.of("src/main/java/FieldEditor.java"));
        String code = source.replaceAll("(?s)/\\*.*?\\*/", "").replaceAll("//[^\n]*", "");
        List<Body> bodies = bodies(code);
        read(bodies);
        classes();
        words(source, code);
        library(bodies);
        loops(bodies);
        sizes(bodies);
        depth(bodies);
        Check.end();
    }

    private static void read(List<Body> bodies) {
        Set<String> names = new HashSet<>();
        for (Body body : bodies) names.add(body.name);
        for (Method m : FieldEditor.class.getDeclaredMethods()) Check.that(m + " was read", names.contains(m.getName()));
        for (Class<?> c : FieldEditor.class.getDeclaredClasses()) {
            for (Method m : c.getDeclaredMethods()) Check.that(m + " was read", names.contains("." + m.getName()));
        }
    }

    /** Rules 2, 3, 5, 11. */
    private static void classes() {
        List<Class<?>> all = new ArrayList<>(List.of(FieldEditor.class.getDeclaredClasses()));
        for (Class<?> c : all) {
            int m = c.getModifiers();
            Check.that(c + " is static, not public", Modifier.isStatic(m) && !Modifier.isPublic(m) && !Modifier.isProtected(m));
            Check.due(c + " has classes inside", c.getDeclaredClasses().length, 0);
        }
        all.add(FieldEditor.class);
        Check.that("twelve classes at most: " + all.size(), all.size() <= 12);
        for (Class<?> c : all) {
            int fields = 0;
            for (Field f : c.getDeclaredFields()) {
                boolean fixed = Modifier.isStatic(f.getModifiers());
                if (fixed) Check.that(f + " is a constant", Modifier.isFinal(f.getModifiers()) && f.getType() == int.class);
                else fields++;
                Check.that(f + " is of a type that may be", mayBe(f.getType(), all));
            }
            Check.that(c + " has twenty fields at most", fields <= 20);
        }
    }

    private static boolean mayBe(Class<?> type, List<Class<?>> own) {
        if (type == int[][].class) return true;
        Class<?> bare = type.isArray() ? type.getComponentType() : type;
        return bare == int.class || bare == boolean.class || own.contains(bare) || type == ArrayList.class;
    }

    /** Rules 4, 6, 13, and plain characters alone. */
    private static void words(String source, String code) {
        for (String word : List.of("package", "throw", "throws", "try", "catch", "synchronized", "assert", "Object", "equals",
            "hashCode", "toString")) {
            Check.that("no " + word, !Pattern.compile("\\b" + word + "\\b").matcher(code).find());
        }
        for (String sign : List.of("->", "::", "@")) Check.that("no " + sign, !code.contains(sign));
        Matcher imports = Pattern.compile("import ([^;]*);").matcher(code);
        while (imports.find()) Check.that(imports.group(1), imports.group(1).matches("java\\.util\\.(ArrayList|Arrays|List)"));
        Check.that("plain characters", source.chars().allMatch(c -> c == '\n' || c >= 32 && c < 127));
    }

    /** Rule 4: what is called is the file's own, or on the list. */
    private static void library(List<Body> bodies) {
        Set<String> known = new HashSet<>();
        for (String name : LIBRARY) known.add("." + name);
        for (Body body : bodies) known.add(body.name);
        for (Class<?> c : FieldEditor.class.getDeclaredClasses()) known.addAll(List.of(c.getSimpleName(), "." + c.getSimpleName()));
        known.addAll(List.of("ArrayList", ".ArrayList"));
        for (Body body : bodies) {
            for (String name : body.calls()) Check.that(body.name + " calls " + name, known.contains(name));
        }
    }

    /** Rule 9: each loop is one that counts against a bound, or goes over an array, as its first line shows. */
    private static void loops(List<Body> bodies) {
        int found = 0;
        for (Body body : bodies) {
            for (String line : body.lines) {
                String loop = line.trim();
                if (!loop.matches(".*\\b(for|while|do)\\b.*")) continue;
                found++;
                Check.that("'" + loop + "' has an end", COUNTED.matcher(loop).matches() || OVER_ARRAY.matcher(loop).matches());
            }
        }
        Check.that("loops were read: " + found, found > 10);
    }

    /** Rule 11. */
    private static void sizes(List<Body> bodies) {
        for (Body body : bodies) {
            Check.that(body.name + " is short: " + body.lines.size(), body.lines.size() <= 60);
            Check.that(body.name + " takes seven at most", body.lines.get(0).split(",").length <= 7);
        }
    }

    /** Rules 8, 11: no recursion, and calls go eight deep at most; methods of one name are taken as one. */
    private static void depth(List<Body> bodies) {
        Map<String, Set<String>> calls = new TreeMap<>();
        for (Body body : bodies) calls.computeIfAbsent(body.name, name -> new HashSet<>()).addAll(body.calls());
        for (String name : calls.keySet()) {
            int deep = deepest(name, calls, 1);
            Check.that(name + " goes " + deep + " deep", deep <= 8);
        }
    }

    private static int deepest(String name, Map<String, Set<String>> calls, int level) {
        int most = level;
        if (level > 20) return level;
        for (String called : calls.get(name)) {
            if (calls.containsKey(called)) most = Math.max(most, deepest(called, calls, level + 1));
        }
        return most;
    }

    private static List<Body> bodies(String code) {
        List<Body> all = new ArrayList<>();
        String[] lines = code.split("\n");
        for (int k = 0; k < lines.length; k++) {
            Matcher head = HEAD.matcher(lines[k]);
            if (!head.matches()) continue;
            String end = " ".repeat(lines[k].indexOf(lines[k].trim())) + "}";
            List<String> body = new ArrayList<>();
            for (int m = k; m < lines.length && !lines[m].equals(end); m++) body.add(lines[m]);
            all.add(new Body((end.length() > 5 ? "." : "") + head.group(1), body));
        }
        return all;
    }
}
