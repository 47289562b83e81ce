import java.lang.reflect.Constructor;
import java.lang.reflect.Field;
import java.lang.reflect.Method;
import java.lang.reflect.Modifier;
import java.nio.file.Files;
import java.nio.file.Path;
import java.util.HashSet;
import java.util.List;
import java.util.Set;
import java.util.TreeSet;
import java.util.regex.Matcher;
import java.util.regex.Pattern;

/** The public face word for word, and the rules of LANGUAGE.md that can be seen in the class and its text. */
public final class FaceTest {
    private static final String METHODS = "shape(int) number(int,int,int,boolean,boolean) "
        + "link(int,int,boolean,boolean,boolean,boolean) derived(int,int,int,int) told(int,int,int) object(int) "
        + "get(int,int) element(int,int,int) shapeOf(int) holders(int) holds(int,int) set(int,int,int) "
        + "lead(int,int,int) unset(int,int) insert(int,int,int,int) remove(int,int,int) sort(int,int,int,boolean) "
        + "begin() commit() abort() undo() redo() path() step(int,int,int) fault(int,int) matches(int,int) "
        + "match(int,int,int,int) copy(int) alike(int,int) watch(int,int,boolean,int) note(int,int,int) lacks() "
        + "count(int) digest()";
    private static final String CONSTANTS = "NONE=-1 BAD=-2 NO=-3 FULL=-4 KIND=-6 READ_ONLY=-7 RANGE=-8 SHAPE=-9 "
        + "LOOP=-10 REQUIRED=-11 VETO=-12 MISSING=-2147483648";

    public static void main(String[] args) throws Exception {
        face();
        constants();
        classesInside();
        text();
        Check.end();
    }

    private static void face() {
        Class<?> face = FieldEditor.class;
        Check.that("public and final", Modifier.isPublic(face.getModifiers()) && Modifier.isFinal(face.getModifiers()));
        Constructor<?>[] constructors = face.getDeclaredConstructors();
        Check.due("constructors", constructors.length, 1);
        Check.that("it is public", Modifier.isPublic(constructors[0].getModifiers()));
        Set<String> due = new TreeSet<>(List.of(METHODS.split(" ")));
        Set<String> there = new TreeSet<>();
        Set<String> names = new HashSet<>();
        for (Method m : face.getDeclaredMethods()) {
            if (Modifier.isPrivate(m.getModifiers())) continue;
            there.add(signature(m));
            names.add(m.getName());
            Class<?> answer = m.getName().equals("digest") ? long.class : int.class;
            Check.that(m + " answers as told", m.getReturnType() == answer && Modifier.isPublic(m.getModifiers()));
        }
        Check.that("methods: " + there, there.equals(due));
        for (Method m : face.getDeclaredMethods()) {
            if (Modifier.isPrivate(m.getModifiers())) Check.that(m + " has its own name", !names.contains(m.getName()));
            Check.that(m + " takes seven at most", m.getParameterCount() <= 7);
        }
    }

    private static String signature(Method m) {
        StringBuilder text = new StringBuilder(m.getName()).append('(');
        for (Class<?> type : m.getParameterTypes()) text.append(text.charAt(text.length() - 1) == '(' ? "" : ",").append(type.getName());
        return text.append(')').toString();
    }

    private static void constants() throws IllegalAccessException {
        Set<String> there = new TreeSet<>();
        for (Field f : FieldEditor.class.getDeclaredFields()) {
            int m = f.getModifiers();
            if (Modifier.isStatic(m)) Check.that(f + " is final", Modifier.isFinal(m));
            if (Modifier.isPrivate(m)) continue;
            Check.that(f + " is a constant", Modifier.isPublic(m) && Modifier.isStatic(m) && f.getType() == int.class);
            there.add(f.getName() + "=" + f.getInt(null));
        }
        Check.that("constants: " + there, there.equals(new TreeSet<>(List.of(CONSTANTS.split(" ")))));
    }

    private static void classesInside() {
        Class<?>[] inside = FieldEditor.class.getDeclaredClasses();
        Check.that("some twelve classes", inside.length + 1 <= 12);
        for (Class<?> c : inside) {
            int m = c.getModifiers();
            Check.that(c + " is static, not public", Modifier.isStatic(m) && !Modifier.isPublic(m) && !Modifier.isProtected(m));
            for (Field f : c.getDeclaredFields()) Check.that(f + " is not static", !Modifier.isStatic(f.getModifiers()));
        }
    }

    private static void text() throws Exception {
        String source = Files.readString(Path.of("src/main/java/FieldEditor.java"));
        String code = source.replaceAll("(?s)/\\*.*?\\*/", "").replaceAll("//[^\n]*", "");
        for (String word : List.of("throw", "throws", "try", "catch", "synchronized", "assert", "package", "Object", "System.out",
            "equals", "hashCode", "toString", "Exact")) {
            Check.that("no " + word, !Pattern.compile("\\b" + Pattern.quote(word) + "\\b").matcher(code).find());
        }
        for (String sign : List.of("->", "::", "@", "while (true)", "for (;;)")) Check.that("no " + sign, !code.contains(sign));
        Matcher imports = Pattern.compile("import ([^;]*);").matcher(code);
        while (imports.find()) Check.that(imports.group(1), imports.group(1).matches("java\\.util\\.(ArrayList|Arrays|List)"));
        for (int k = 0; k < source.length(); k++) {
            if (source.charAt(k) > 126) Check.that("a plain character at " + k, false);
        }
        Check.that("the text was read", code.length() > 1000);
    }
}
