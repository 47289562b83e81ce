import java.lang.reflect.Method;
import java.util.ArrayList;
import java.util.HashMap;
import java.util.List;
import java.util.Map;
import java.util.regex.Matcher;
import java.util.regex.Pattern;

/**
 * A run of calls told as text, such as "shape(NONE) = 0; object(0)": it is run on a new object again and
 * again, so that each look at what it comes to keeps within the calls that are promised.
 */
final class Story {
    private static final int PROMISED_CALLS = 512;
    private static final Pattern TEXT = Pattern.compile("(\\w+)\\(([^)]*)\\)(?: = (\\S+))?");
    private static final Map<String, Method> METHODS = methods();

    /** Due is null where it is enough that the call is taken. */
    private record Call(String text, Method method, Object[] arguments, Long due) {
        long ask(FieldEditor x) {
            try {
                return ((Number) method.invoke(x, arguments)).longValue();
            } catch (ReflectiveOperationException e) {
                throw new IllegalStateException(text, e);
            }
        }
    }

    private final List<Call> calls;
    /** An edit of a place that has no say in the story, see refuses(); null: there is none. */
    private final String stir;
    private List<String> look = null;

    private Story(List<Call> calls, String stir) {
        this.calls = calls;
        this.stir = stir;
    }

    static Story of(String... texts) {
        return new Story(List.of(), null).then(texts);
    }

    Story stirredBy(String edit) {
        return new Story(calls, edit);
    }

    /** The story goes on: each call answers as is due, or is taken (0 or more) where nothing is told. */
    Story then(String... texts) {
        List<Call> longer = new ArrayList<>(calls);
        for (String text : texts) {
            for (String each : text.split("; ?")) longer.add(call(each));
        }
        Story next = new Story(longer, stir);
        next.checkFrom(calls.size());
        return next;
    }

    /** The same calls again and again: # is the number of the turn, from 0 on, and #+1 the next one. */
    Story times(int turns, String text) {
        String[] texts = new String[turns];
        for (int k = 0; k < turns; k++) texts[k] = text.replace("#+1", String.valueOf(k + 1)).replace("#", String.valueOf(k));
        return then(texts);
    }

    /** Each of the calls, alone behind the story, answers as is due. */
    Story answers(String... texts) {
        for (String text : texts) then(text);
        return this;
    }

    /** Each of the calls, alone behind the story, tells what is due and changes nothing. */
    Story tells(String... texts) {
        for (String text : texts) {
            Story next = then(text);
            String change = firstChange(next);
            Check.that(next.told() + " changes nothing: " + change, change.isEmpty());
        }
        return this;
    }

    /**
     * Each of the calls, alone behind the story, is refused as is due and changes nothing; if the story can be
     * stirred, also while there is something to be done again, and in a group that has begun.
     */
    Story refuses(String... texts) {
        for (String text : texts) Check.that(text + " is due to be refused", call(text).due < 0);
        if (stir != null && count(5) >= 0) then(stir).tells(texts);
        if (stir != null && count(5) < 0) {
            then(stir, stir, "undo()").tells(texts);
            then("begin()", stir).tells(texts);
        }
        return tells(texts);
    }

    long answer(String text) {
        return call(text).ask(run());
    }

    private void checkFrom(int first) {
        Check.that(calls.size() + " calls are promised", calls.size() <= PROMISED_CALLS);
        FieldEditor x = new FieldEditor();
        for (int k = 0; k < calls.size(); k++) {
            Call call = calls.get(k);
            long got = call.ask(x);
            if (k < first) continue;
            if (call.due == null) Check.that(told() + ": " + call.text + " answered " + got, got >= 0);
            else Check.due(told() + ": " + call.text, got, call.due);
        }
    }

    private FieldEditor run() {
        FieldEditor x = new FieldEditor();
        for (Call call : calls) call.ask(x);
        return x;
    }

    private String told() {
        StringBuilder text = new StringBuilder(calls.size() > 6 ? ".. " : "");
        for (int k = Math.max(0, calls.size() - 6); k < calls.size(); k++) text.append(calls.get(k).text).append("; ");
        return text.toString().trim();
    }

    // ---- what can be seen of the state

    private String firstChange(Story next) {
        if (look == null) look = lookFor(this);
        List<String> then = next.lookFor(this);
        for (int k = 0; k < look.size(); k++) {
            if (k >= then.size() || !look.get(k).equals(then.get(k))) return look.get(k) + " ahead of it";
        }
        return then.size() > look.size() ? then.get(look.size()) + " behind it" : "";
    }

    /** The calls to look with follow from how much there was at first. */
    private List<String> lookFor(Story first) {
        int room = PROMISED_CALLS - first.calls.size() - 1;
        if (room < 1) throw new IllegalStateException("no calls are left to look with");
        List<String> seen = new ArrayList<>();
        List<String> reads = first.reads();
        for (int k = 0; k < reads.size(); k += room) ask(reads.subList(k, Math.min(k + room, reads.size())), seen);
        for (List<String> probe : first.probes()) ask(probe.subList(0, Math.min(room, probe.size())), seen);
        return seen;
    }

    private void ask(List<String> texts, List<String> seen) {
        FieldEditor x = run();
        for (String text : texts) seen.add(text + " answered " + call(text).ask(x));
    }

    private List<String> reads() {
        int shapes = count(0), objects = count(1), paths = count(2), watches = count(6);
        List<String> reads = new ArrayList<>(List.of("digest()", "lacks()"));
        for (int what = 0; what < 7; what++) reads.add("count(" + what + ")");
        for (int s = 0; s < shapes; s++) {
            for (int k = 0; k < 32; k++) reads.add("told(" + s + ", " + k / 4 + ", " + k % 4 + ")");
            for (int p = 0; p < paths; p++) reads.add("fault(" + p + ", " + s + ")");
        }
        for (int p = 0; p < paths; p++) {
            for (int o = 0; o < Math.min(objects, 4); o++) reads.add("matches(" + p + ", " + o + ")");
        }
        for (int w = 0; w < watches; w++) {
            for (int k = 0; k < 123; k++) reads.add("note(" + w + ", " + k / 3 + ", " + k % 3 + ")");
        }
        return reads;
    }

    /** What no call tells is seen by what edits and additions answer, each row of them on an object of its own. */
    private List<List<String>> probes() {
        List<String> fields = new ArrayList<>();
        for (int s = 0; s < count(0); s++) fields.add("number(" + s + ", 0, 0, false, false)");
        List<String> steps = new ArrayList<>();
        for (int p = 0; p < count(2); p++) steps.add("step(" + p + ", 2, 0)");
        List<String> back = new ArrayList<>(List.of("commit()"));
        for (int k = 0; k <= count(3) + 1; k++) back.addAll(List.of("undo()", "digest()"));
        List<String> again = new ArrayList<>();
        for (int k = 0; k <= count(4); k++) again.addAll(List.of("redo()", "digest()"));
        return List.of(fields, steps, back, again, List.of("abort()", "digest()"),
            List.of("shape(-1)"), List.of("path()"), List.of("object(0)"));
    }

    private int count(int what) {
        return run().count(what);
    }

    // ---- texts

    private static Map<String, Method> methods() {
        Map<String, Method> all = new HashMap<>();
        for (Method m : FieldEditor.class.getMethods()) {
            if (m.getDeclaringClass() == FieldEditor.class) all.put(m.getName(), m);
        }
        return all;
    }

    private static Call call(String text) {
        Matcher parts = TEXT.matcher(text.trim());
        if (!parts.matches() || !METHODS.containsKey(parts.group(1))) throw new IllegalArgumentException(text);
        String[] words = parts.group(2).isEmpty() ? new String[0] : parts.group(2).split(", *");
        Object[] arguments = new Object[words.length];
        for (int k = 0; k < words.length; k++) {
            boolean flag = words[k].equals("true") || words[k].equals("false");
            if (flag) arguments[k] = words[k].equals("true");
            else arguments[k] = (int) number(words[k]);
        }
        Long due = parts.group(3) == null ? null : Long.valueOf(number(parts.group(3)));
        return new Call(text.trim(), METHODS.get(parts.group(1)), arguments, due);
    }

    private static long number(String word) {
        if (word.equals("LEAST")) return Integer.MIN_VALUE;
        if (word.equals("MOST")) return Integer.MAX_VALUE;
        if (!Character.isLetter(word.charAt(0))) return Long.parseLong(word);
        try {
            return FieldEditor.class.getField(word).getInt(null);
        } catch (ReflectiveOperationException e) {
            throw new IllegalArgumentException(word, e);
        }
    }
}
