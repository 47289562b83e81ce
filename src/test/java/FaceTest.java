import java.io.IOException;
import java.lang.reflect.Constructor;
import java.lang.reflect.Field;
import java.lang.reflect.Method;
import java.lang.reflect.Modifier;
import java.nio.file.Files;
import java.nio.file.Path;
import java.util.HashSet;
import java.util.Set;
import java.util.TreeSet;
import java.util.regex.Matcher;
import java.util.regex.Pattern;

/** The public face is that of the document, word for word, and nothing more can be seen of the class. */
public final class FaceTest {
    private static final Pattern METHOD = Pattern.compile("public (int|long) (\\w+)\\(([^)]*)\\);");
    private static final Pattern CONSTANT = Pattern.compile("(\\w+) = (-?\\d+)");

    public static void main(String[] args) throws Exception {
        String document = Files.readString(Path.of("../shared/DOC.md"));
        int from = document.indexOf("public final class FieldEditor {");
        String face = document.substring(from, document.indexOf("```", from));
        constants(face);
        constructor(face);
        methods(face);
        privateNames();
        wordForWord(face);
        Check.end();
    }

    private static void constants(String face) throws IllegalAccessException {
        Set<String> due = new TreeSet<>();
        Matcher each = CONSTANT.matcher(face);
        while (each.find()) due.add(each.group(1) + "=" + each.group(2));
        Set<String> there = new TreeSet<>();
        for (Field f : FieldEditor.class.getDeclaredFields()) {
            int m = f.getModifiers();
            if (Modifier.isPrivate(m)) continue;
            Check.that(f + " is a constant", Modifier.isPublic(m) && Modifier.isStatic(m) && Modifier.isFinal(m)
                && f.getType() == int.class);
            there.add(f.getName() + "=" + f.getInt(null));
        }
        Check.due("constants of the document", due.size(), 12);
        Check.that("constants: " + there + ", due are " + due, there.equals(due));
    }

    private static void constructor(String face) {
        Check.that("the document has a constructor", face.contains("public FieldEditor();"));
        int modifiers = FieldEditor.class.getModifiers();
        Check.that("public and final", Modifier.isPublic(modifiers) && Modifier.isFinal(modifiers));
        Constructor<?>[] all = FieldEditor.class.getDeclaredConstructors();
        Check.due("constructors", all.length, 1);
        Check.that("it is public, with nothing to take", Modifier.isPublic(all[0].getModifiers()) && all[0].getParameterCount() == 0);
    }

    private static void methods(String face) {
        Set<String> due = new TreeSet<>();
        Matcher each = METHOD.matcher(face);
        while (each.find()) due.add(each.group(1) + " " + each.group(2) + "(" + each.group(3).replaceAll(" \\w+(, )?", "$1") + ")");
        Set<String> there = new TreeSet<>();
        for (Method m : FieldEditor.class.getDeclaredMethods()) {
            if (Modifier.isPrivate(m.getModifiers())) continue;
            Check.that(m + " is public, of an object", Modifier.isPublic(m.getModifiers()) && !Modifier.isStatic(m.getModifiers()));
            there.add(told(m));
        }
        Check.due("methods of the document", due.size(), 34);
        Check.that("methods: " + there + ", due are " + due, there.equals(due));
    }

    private static String told(Method m) {
        StringBuilder text = new StringBuilder(m.getReturnType().getName()).append(' ').append(m.getName()).append('(');
        for (int k = 0; k < m.getParameterCount(); k++) text.append(k == 0 ? "" : ", ").append(m.getParameterTypes()[k].getName());
        return text.append(')').toString();
    }

    /** Rule 1 of LANGUAGE.md. */
    private static void privateNames() {
        Set<String> names = new HashSet<>();
        for (Method m : FieldEditor.class.getMethods()) names.add(m.getName());
        for (Method m : FieldEditor.class.getDeclaredMethods()) {
            if (Modifier.isPrivate(m.getModifiers())) Check.that(m + " has a name of its own", !names.contains(m.getName()));
        }
    }

    /** The names of the parameters, too, are those of the document. */
    private static void wordForWord(String face) throws IOException {
        String source = Files.readString(Path.of("src/main/java/FieldEditor.java"));
        Matcher each = METHOD.matcher(face);
        while (each.find()) {
            String head = each.group().replace(";", " {");
            Check.that("'" + head + "' stands in the class", source.contains(head));
        }
    }
}
