import com.sun.management.ThreadMXBean;
import java.lang.management.ManagementFactory;
import java.util.LinkedHashMap;
import java.util.Map;
import java.util.function.Supplier;

/** All that a run makes lives in one room of 7.3 million fields and elements, so 512 calls of a kind take a hundredth at most. */
public final class RoomTest {
    private static final int PROMISED_CALLS = 512;
    private static final long HUNDREDTH = 7_300_000L * Integer.BYTES / 100;
    private static final ThreadMXBean MEMORY = (ThreadMXBean) ManagementFactory.getThreadMXBean();

    /** What was made last, kept so that making it can't be left out. */
    private static Object kept = null;

    private interface Turn {
        long ask(FieldEditor x, int k);
    }

    public static void main(String[] args) {
        Check.that("what is made can be counted", made(() -> new int[1000]) >= 4000);
        new FieldEditor();
        long ofNew = made(FieldEditor::new);
        Check.that("a new object takes " + ofNew + " bytes", ofNew < HUNDREDTH);
        turns().forEach(RoomTest::check);
        Check.end();
    }

    private static void check(String name, Turn turn) {
        long most = 0;
        for (boolean inGroup : new boolean[] {false, true}) {
            FieldEditor x = world();
            if (inGroup) x.begin();
            // The first turn may load classes, which are no part of the run.
            turn.ask(x, 0);
            most = Math.max(most, made(() -> {
                for (int k = 1; k < PROMISED_CALLS; k++) turn.ask(x, k);
                return x;
            }));
        }
        Check.that(PROMISED_CALLS + " of " + name + " take " + most + " bytes", most < HUNDREDTH);
    }

    private static long made(Supplier<Object> maker) {
        long thread = Thread.currentThread().getId();
        long before = MEMORY.getThreadAllocatedBytes(thread);
        kept = maker.get();
        return MEMORY.getThreadAllocatedBytes(thread) - before;
    }

    /** Field 0 a number, 1 a link, 2 a list, 3 a weak list, 4 to 7 derived; each object but the last holds six times the next. */
    private static FieldEditor world() {
        FieldEditor x = new FieldEditor();
        x.shape(FieldEditor.NONE);
        x.number(0, 0, 999, true, false);
        x.link(0, 0, false, false, false, false);
        x.link(0, 0, true, false, false, false);
        x.link(0, 0, true, false, false, true);
        x.derived(0, 4, 2, 0);
        x.derived(0, 3, 2, 0);
        x.derived(0, 0, 4, 5);
        x.derived(0, 5, 3, 0);
        for (int k = 0; k < 30; k++) x.object(0);
        for (int k = 0; k < 29; k++) {
            for (int i = 0; i < 6; i++) x.insert(k, 2, i, k + 1);
            for (int i = 0; i < 5; i++) x.insert(k, 3, i, 29 - k);
        }
        for (int k = 0; k < 10; k++) x.watch(0, k % 4, false, 0);
        int[][] steps = {{0, 2}, {3, 0}, {0, 2}, {3, 0}, {4, 0}};
        x.path();
        for (int[] step : steps) x.step(0, step[0], step[1]);
        return x;
    }

    private static Map<String, Turn> turns() {
        Map<String, Turn> all = new LinkedHashMap<>();
        all.put("shape", (x, k) -> x.shape(0));
        all.put("number", (x, k) -> x.number(0, 0, k, false, false));
        all.put("link", (x, k) -> x.link(0, 0, k % 2 == 0, false, false, true));
        all.put("derived", (x, k) -> x.derived(0, k % 6, 2, 0));
        all.put("told", (x, k) -> x.told(0, k % 8, k % 4));
        all.put("object", (x, k) -> x.object(0));
        all.put("get", (x, k) -> x.get(k % 30, k % 8));
        all.put("element", (x, k) -> x.element(k % 30, 2, k % 6));
        all.put("shapeOf", (x, k) -> x.shapeOf(k % 30));
        all.put("holders", (x, k) -> x.holders(k % 30));
        all.put("holds", (x, k) -> x.holds(0, k % 30));
        all.put("set", (x, k) -> x.set(k % 30, 0, k));
        all.put("lead", (x, k) -> x.lead(0, 1, 1 + k % 29));
        all.put("lead refused", (x, k) -> x.lead(29, 1, k % 29));
        all.put("unset", (x, k) -> x.unset(k % 30, 1));
        all.put("insert, remove", (x, k) -> k % 2 == 0 ? x.insert(0, 3, k % 6, 1) : x.remove(0, 3, 0));
        all.put("sort", (x, k) -> x.sort(0, 2, 6, k % 2 == 0));
        all.put("begin, commit", (x, k) -> k % 2 == 0 ? x.begin() : x.commit());
        all.put("begin, abort", (x, k) -> k % 2 == 0 ? x.begin() : x.abort());
        all.put("undo, redo", (x, k) -> k / 60 % 2 == 0 ? x.undo() : x.redo());
        all.put("path", (x, k) -> x.path());
        all.put("step", (x, k) -> x.step(0, 3, 0));
        all.put("fault", (x, k) -> x.fault(0, 0));
        all.put("matches", (x, k) -> x.matches(0, k % 30));
        all.put("match", (x, k) -> x.match(0, 0, k % 36, k % 2));
        all.put("copy", (x, k) -> x.copy(k % 30));
        all.put("alike", (x, k) -> x.alike(k % 30, k * 7 % 30));
        all.put("watch", (x, k) -> x.watch(0, 0, true, k));
        all.put("note", (x, k) -> x.note(k % 10, k % 40, k % 3));
        all.put("lacks", (x, k) -> x.lacks());
        all.put("count", (x, k) -> x.count(k % 7));
        all.put("digest", (x, k) -> x.digest());
        return all;
    }
}
