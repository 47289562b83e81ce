import java.lang.reflect.Method;
import java.util.ArrayList;
import java.util.List;
import java.util.Random;
import java.util.StringJoiner;

/** Long runs of calls, the same on the program and on PlainModel: every answer must be the same. */
public final class RandomRunsTest {
    private static final int RUNS = 1000, CALLS = 512;

    /** Each call with what its arguments are: see argument(); the number is how often it comes. */
    private static final String[] TABLE = {
        "shape a 2", "number s l v b b 3", "link s s b b b b 3", "derived s c f f 4", "told s f w 3", "object s 3",
        "get o f 8", "element o 2 i 4", "shapeOf o 1", "holders o 3", "holds o o 4", "set o 0 v 14", "lead o 1 o 14",
        "unset o f 5", "insert o 2 i o 20", "remove o 2 i 5", "sort o 2 f b 6", "begin 3", "commit 2", "abort 1",
        "undo 8", "redo 6", "path 2", "step p t n 6", "fault p s 4", "matches p o 4", "match p o i w 6", "copy o 1",
        "alike o o 4", "watch s f b v 1", "note k i w 6", "lacks 1", "count w 3", "digest 6"};

    private final Random random;
    private final FieldEditor program = new FieldEditor();
    private final PlainModel model = new PlainModel();
    private final StringBuilder told = new StringBuilder();
    private int calls = 0;
    private boolean wrong = false;

    private RandomRunsTest(long seed) {
        random = new Random(seed);
    }

    public static void main(String[] args) throws Exception {
        List<String[]> table = new ArrayList<>();
        for (String line : TABLE) {
            String[] words = line.split(" ");
            for (int k = Integer.parseInt(words[words.length - 1]); k > 0; k--) table.add(words);
        }
        int[] accepted = new int[TABLE.length];
        for (int run = 0; run < RUNS; run++) {
            RandomRunsTest test = new RandomRunsTest(run);
            test.go(table, run % 4, accepted);
            Check.that("run " + run + ":" + (test.wrong ? test.told : ""), !test.wrong);
            if (test.wrong) break;
        }
        for (int k = 0; k < TABLE.length; k++) Check.that(TABLE[k] + " is answered well now and then", accepted[k] > 50);
        Check.end();
    }

    private void go(List<String[]> table, int way, int[] accepted) throws Exception {
        if (way < 3) prepare(way);
        while (calls < CALLS && !wrong) {
            String[] words = table.get(random.nextInt(table.size()));
            Object[] arguments = new Object[words.length - 2];
            for (int k = 0; k < arguments.length; k++) {
                char kind = words[k + 1].charAt(0);
                arguments[k] = kind < '3' ? fieldOfKind((int) arguments[0], kind - '0') : argument(kind);
            }
            long answer = both(words[0], arguments);
            for (int k = 0; k < TABLE.length; k++) if (TABLE[k].startsWith(words[0] + " ") && answer > 0) accepted[k]++;
        }
    }

    /** Shapes and objects such that most calls find something to do. */
    private void prepare(int way) throws Exception {
        int shapes = 1 + random.nextInt(3);
        for (int s = 0; s < shapes; s++) {
            both("shape", way == 0 ? s - 1 : random.nextInt(s + 1) - 1);
            for (int f = 2 + random.nextInt(5); f > 0; f--) prepareField(s);
        }
        for (int o = 4 + random.nextInt(12); o > 0; o--) both("object", random.nextInt(shapes));
        if (way == 1) for (int k = 0; k < 3; k++) both("watch", random.nextInt(shapes), random.nextInt(4), k == 2, 2);
    }

    private void prepareField(int shape) throws Exception {
        boolean weak = random.nextInt(3) == 0;
        int to = random.nextInt(3) == 0 ? 0 : shape;
        switch (random.nextInt(5)) {
            case 0 -> both("number", shape, -2, 3, random.nextInt(4) == 0, random.nextInt(4) == 0);
            case 1 -> both("link", shape, to, false, random.nextInt(4) == 0, random.nextInt(4) == 0, weak);
            case 2, 3 -> both("link", shape, to, true, false, false, weak);
            default -> both("derived", shape, random.nextInt(6), random.nextInt(4), random.nextInt(4));
        }
    }

    private Object argument(char kind) {
        if (kind == 'b') return random.nextInt(3) == 0;
        if (random.nextInt(40) == 0) return wild();
        switch (kind) {
            case 'a': return random.nextInt(model.count(0) + 1) - 1;
            case 's': return random.nextInt(Math.max(1, model.count(0)));
            case 'o': return random.nextInt(Math.max(1, random.nextInt(4) == 0 ? model.count(1) : Math.min(model.count(1), 6)));
            case 'p': return random.nextInt(Math.max(1, model.count(2)));
            case 'k': return random.nextInt(Math.max(1, model.count(6)));
            case 'f': return random.nextInt(random.nextInt(8) == 0 ? 10 : 6);
            case 'i': return random.nextInt(random.nextInt(6) == 0 ? 45 : 3);
            case 'c': return random.nextInt(7);
            case 't': return new int[] {0, 0, 0, 1, 2, 3, 3, 4, 5}[random.nextInt(9)];
            case 'w': return random.nextInt(7) % 4 + (random.nextInt(3) == 0 ? 3 : 0);
            case 'l': return random.nextInt(6) - 4;
            case 'n': return random.nextInt(5);
            default: return random.nextInt(7) - 2;
        }
    }

    /** Mostly a field of the object that is of the kind, so that edits find one that they fit. */
    private Object fieldOfKind(int object, int kind) {
        int field = random.nextInt(8);
        int shape = model.shapeOf(object);
        for (int k = 0; k < 8 && random.nextInt(20) > 0; k++) {
            if (shape >= 0 && model.told(shape, field, 0) == kind) return field;
            field = (field + 1) % 8;
        }
        return argument('f');
    }

    private Object wild() {
        int[] all = {-1, -2, 6, 7, 8, 10, 16, 59, 60, 61, 63, 64, 65536, Integer.MAX_VALUE, Integer.MIN_VALUE,
            Integer.MIN_VALUE + 1, Integer.MAX_VALUE - 1};
        return all[random.nextInt(all.length)];
    }

    private long both(String name, Object... arguments) throws Exception {
        long got = ask(FieldEditor.class, program, name, arguments);
        long want = ask(PlainModel.class, model, name, arguments);
        calls++;
        StringJoiner call = new StringJoiner(", ", name + "(", ")");
        for (Object argument : arguments) call.add(argument.toString());
        told.append('\n').append(call).append(" answered ").append(got).append(", due is ").append(want);
        wrong |= got != want;
        return got;
    }

    private static long ask(Class<?> of, Object target, String name, Object[] arguments) throws Exception {
        for (Method m : of.getDeclaredMethods()) {
            if (!m.getName().equals(name)) continue;
            return ((Number) m.invoke(target, arguments)).longValue();
        }
        throw new IllegalStateException(name);
    }
}
