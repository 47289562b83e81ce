/** Promises 13 to 18: set, lead, unset, insert, remove, sort, and the order in which edits are refused. */
public final class EditsTest {
    private static final int MISSING = FieldEditor.MISSING;

    public static void main(String[] args) {
        set();
        setReadOnly();
        lead();
        leadDown();
        leadLoop();
        unset();
        insert();
        insertLoop();
        remove();
        sort();
        sortKinds();
        refusedChangesNothing();
        Check.end();
    }

    private static void set() {
        FieldEditor x = new FieldEditor();
        x.shape(FieldEditor.NONE);
        x.number(0, -5, 5, true, false);
        x.link(0, 0, false, false, false, false);
        x.link(0, 0, true, false, false, false);
        x.derived(0, 0, 0, 0);
        x.object(0);
        Check.due("least", x.set(0, 0, -5), 1);
        Check.due("it is so", x.get(0, 0), -5);
        Check.due("most", x.set(0, 0, 5), 1);
        Check.due("it is so then", x.get(0, 0), 5);
        Check.due("the same again is an edit", x.set(0, 0, 5) + x.count(3), 4);
        Check.due("below", x.set(0, 0, -6), FieldEditor.RANGE);
        Check.due("above", x.set(0, 0, 6), FieldEditor.RANGE);
        Check.due("MISSING", x.set(0, 0, MISSING), FieldEditor.RANGE);
        for (int f = 1; f < 4; f++) Check.due("no number " + f, x.set(0, f, 0), FieldEditor.KIND);
        Check.due("field 4", x.set(0, 4, 0), FieldEditor.BAD);
        Check.due("field -1", x.set(0, -1, 0), FieldEditor.BAD);
        Check.due("object 1", x.set(1, 0, 0), FieldEditor.BAD);
        Check.due("object -1", x.set(-1, 0, 0), FieldEditor.BAD);
        Check.due("as it was", x.get(0, 0), 5);
    }

    private static void setReadOnly() {
        FieldEditor x = new FieldEditor();
        x.shape(FieldEditor.NONE);
        x.number(0, 0, 9, false, true);
        x.object(0);
        Check.due("out of range while missing", x.set(0, 0, 10), FieldEditor.RANGE);
        Check.due("the first time", x.set(0, 0, 0), 1);
        Check.due("a second time", x.set(0, 0, 1), FieldEditor.READ_ONLY);
        Check.due("ahead of RANGE", x.set(0, 0, 10), FieldEditor.READ_ONLY);
        x.undo();
        Check.due("undone, it is missing", x.set(0, 0, 2), 1);
        x.watch(0, 0, true, 1);
        Check.due("ahead of VETO", x.set(0, 0, 2), FieldEditor.READ_ONLY);
    }

    private static void lead() {
        FieldEditor x = new FieldEditor();
        x.shape(FieldEditor.NONE);
        x.shape(0);
        x.shape(FieldEditor.NONE);
        x.number(2, 0, 99, false, false);
        x.link(2, 0, false, false, false, false);
        x.link(2, 1, false, true, true, false);
        x.link(2, 0, true, false, false, false);
        x.derived(2, 5, 1, 0);
        x.object(0);
        x.object(1);
        x.object(2);
        Check.due("to one of the shape", x.lead(2, 1, 0), 1);
        Check.due("it does", x.get(2, 1), 0);
        Check.due("to one of a shape below", x.lead(2, 1, 1), 1);
        Check.due("it does then", x.get(2, 1), 1);
        Check.due("to one of another shape", x.lead(2, 1, 2), FieldEditor.SHAPE);
        Check.due("to one of the shape above", x.lead(2, 2, 0), FieldEditor.SHAPE);
        Check.due("read only, the first time", x.lead(2, 2, 1), 1);
        Check.due("read only", x.lead(2, 2, 1), FieldEditor.READ_ONLY);
        Check.due("read only ahead of SHAPE", x.lead(2, 2, 0), FieldEditor.READ_ONLY);
        Check.due("no link 0", x.lead(2, 0, 0), FieldEditor.KIND);
        Check.due("no link 3", x.lead(2, 3, 0), FieldEditor.KIND);
        Check.due("no link 4", x.lead(2, 4, 0), FieldEditor.KIND);
        Check.due("field 5", x.lead(2, 5, 0), FieldEditor.BAD);
        Check.due("object 3", x.lead(3, 1, 0), FieldEditor.BAD);
        Check.due("other 3", x.lead(2, 1, 3), FieldEditor.BAD);
        Check.due("other -1", x.lead(2, 1, FieldEditor.NONE), FieldEditor.BAD);
        Check.due("other MISSING", x.lead(2, 1, MISSING), FieldEditor.BAD);
        Check.due("BAD ahead of KIND", x.lead(2, 0, 3), FieldEditor.BAD);
        Check.due("as it was", x.get(2, 1), 1);
    }

    /** Ten shapes below one another: the last is each of them, the first is none of the others. */
    private static void leadDown() {
        FieldEditor x = new FieldEditor();
        for (int s = 0; s < 10; s++) x.shape(s - 1);
        x.link(9, 0, false, false, false, true);
        x.link(9, 9, true, false, false, true);
        for (int s = 0; s < 10; s++) x.object(s);
        for (int s = 0; s < 10; s++) Check.due("to shape " + s, x.lead(9, 0, s), 1);
        for (int s = 0; s < 9; s++) Check.due("into a list, shape " + s, x.insert(9, 1, 0, s), FieldEditor.SHAPE);
        Check.due("into a list, the last shape", x.insert(9, 1, 0, 9), 1);
    }

    private static FieldEditor linked(int objects) {
        FieldEditor x = new FieldEditor();
        x.shape(FieldEditor.NONE);
        x.shape(FieldEditor.NONE);
        x.link(0, 0, false, false, false, false);
        x.link(0, 0, false, false, false, true);
        x.link(0, 0, true, false, false, false);
        x.link(0, 0, true, false, false, true);
        for (int k = 0; k < objects; k++) x.object(0);
        x.object(1);
        return x;
    }

    private static void leadLoop() {
        FieldEditor x = linked(3);
        Check.due("to itself", x.lead(0, 0, 0), FieldEditor.LOOP);
        Check.due("to itself, weak", x.lead(0, 1, 0), 1);
        x.lead(0, 0, 1);
        x.insert(1, 2, 0, 2);
        Check.due("at a distance", x.lead(2, 0, 0), FieldEditor.LOOP);
        Check.due("nearer", x.lead(2, 0, 1), FieldEditor.LOOP);
        Check.due("weak at a distance", x.lead(2, 1, 0), 1);
        Check.due("SHAPE ahead of LOOP", x.lead(0, 0, 3), FieldEditor.SHAPE);
        x.unset(0, 0);
        Check.due("a weak way is no loop", x.lead(2, 0, 0), 1);
        Check.due("now the other way", x.lead(0, 0, 1), FieldEditor.LOOP);
        Check.due("twice to one is no loop", x.insert(2, 2, 0, 0), 1);
    }

    private static void unset() {
        FieldEditor x = new FieldEditor();
        x.shape(FieldEditor.NONE);
        x.number(0, 0, 9, false, false);
        x.link(0, 0, false, false, false, true);
        x.number(0, 0, 9, true, false);
        x.number(0, 0, 9, false, true);
        x.link(0, 0, false, true, true, false);
        x.link(0, 0, true, false, false, false);
        x.derived(0, 0, 0, 0);
        x.object(0);
        Check.due("missing already", x.unset(0, 0), 1);
        Check.due("an edit", x.count(3), 1);
        x.set(0, 0, 3);
        x.lead(0, 1, 0);
        Check.due("a number", x.unset(0, 0), 1);
        Check.due("it is missing", x.get(0, 0), MISSING);
        Check.due("a link", x.unset(0, 1), 1);
        Check.due("it is missing, too", x.get(0, 1), MISSING);
        Check.due("required, missing", x.unset(0, 2), FieldEditor.REQUIRED);
        Check.due("read only, missing", x.unset(0, 3), FieldEditor.READ_ONLY);
        Check.due("both", x.unset(0, 4), FieldEditor.READ_ONLY);
        x.set(0, 2, 1);
        x.set(0, 3, 1);
        Check.due("required", x.unset(0, 2), FieldEditor.REQUIRED);
        Check.due("read only", x.unset(0, 3), FieldEditor.READ_ONLY);
        Check.due("a list", x.unset(0, 5), FieldEditor.KIND);
        Check.due("derived", x.unset(0, 6), FieldEditor.KIND);
        Check.due("field 7", x.unset(0, 7), FieldEditor.BAD);
        Check.due("object 1", x.unset(1, 0), FieldEditor.BAD);
        x.watch(0, 0, true, MISSING);
        Check.due("no veto of nothing", x.unset(0, 0), 1);
    }

    private static void insert() {
        FieldEditor x = linked(4);
        x.insert(0, 2, 0, 1);
        x.insert(0, 2, 1, 2);
        x.insert(0, 2, 1, 3);
        row(x, "ahead of place i", 0, 2, 1, 3, 2);
        Check.due("place -1", x.insert(0, 2, -1, 1), FieldEditor.RANGE);
        Check.due("behind the end", x.insert(0, 2, 4, 1), FieldEditor.RANGE);
        Check.due("RANGE ahead of SHAPE", x.insert(0, 2, 4, 4), FieldEditor.RANGE);
        Check.due("another shape", x.insert(0, 2, 0, 4), FieldEditor.SHAPE);
        Check.due("no list", x.insert(0, 0, 0, 1), FieldEditor.KIND);
        Check.due("KIND ahead of RANGE", x.insert(0, 1, -1, 1), FieldEditor.KIND);
        Check.due("field 4", x.insert(0, 4, 0, 1), FieldEditor.BAD);
        Check.due("object 5", x.insert(5, 2, 0, 1), FieldEditor.BAD);
        Check.due("other 5", x.insert(0, 2, 0, 5), FieldEditor.BAD);
        Check.due("BAD ahead of KIND", x.insert(0, 0, 0, -1), FieldEditor.BAD);
        x.insert(0, 2, 3, 1);
        x.insert(0, 2, 0, 2);
        Check.due("a 6th", x.insert(0, 2, 5, 3), 1);
        row(x, "one may stand there more than once", 0, 2, 2, 1, 3, 2, 1, 3);
        Check.due("a 7th", x.insert(0, 2, 0, 1), FieldEditor.RANGE);
        Check.due("a 7th, RANGE ahead of SHAPE", x.insert(0, 2, 0, 4), FieldEditor.RANGE);
        Check.due("a 7th, RANGE ahead of LOOP", x.insert(0, 2, 0, 0), FieldEditor.RANGE);
    }

    private static void insertLoop() {
        FieldEditor x = linked(3);
        Check.due("itself", x.insert(0, 2, 0, 0), FieldEditor.LOOP);
        Check.due("itself, weak", x.insert(0, 3, 0, 0), 1);
        x.insert(0, 2, 0, 1);
        x.lead(1, 0, 2);
        Check.due("at a distance", x.insert(2, 2, 0, 0), FieldEditor.LOOP);
        Check.due("weak", x.insert(2, 3, 0, 0), 1);
        x.remove(0, 2, 0);
        Check.due("open again", x.insert(2, 2, 0, 0), 1);
    }

    private static void remove() {
        FieldEditor x = linked(4);
        Check.due("of an empty one", x.remove(0, 2, 0), FieldEditor.RANGE);
        for (int k = 1; k < 4; k++) x.insert(0, 2, k - 1, k);
        Check.due("place -1", x.remove(0, 2, -1), FieldEditor.RANGE);
        Check.due("place 3", x.remove(0, 2, 3), FieldEditor.RANGE);
        Check.due("in between", x.remove(0, 2, 1), 1);
        row(x, "without it", 0, 2, 1, 3);
        Check.due("the last", x.remove(0, 2, 1), 1);
        row(x, "without the last", 0, 2, 1);
        Check.due("the first", x.remove(0, 2, 0), 1);
        row(x, "empty", 0, 2);
        Check.due("no list", x.remove(0, 0, 0), FieldEditor.KIND);
        Check.due("field 4", x.remove(0, 4, 0), FieldEditor.BAD);
        Check.due("object -1", x.remove(-1, 2, 0), FieldEditor.BAD);
    }

    private static void sort() {
        FieldEditor x = new FieldEditor();
        x.shape(FieldEditor.NONE);
        x.number(0, -9, 9, false, false);
        x.link(0, 0, true, false, false, true);
        x.link(0, 0, false, false, false, true);
        for (int k = 0; k < 6; k++) x.object(0);
        int[] numbers = {3, MISSING, -2, 3, MISSING, 5};
        for (int k = 0; k < 6; k++) {
            if (numbers[k] != MISSING) x.set(k, 0, numbers[k]);
            x.insert(0, 1, k, k);
        }
        Check.due("rising", x.sort(0, 1, 0, false), 1);
        row(x, "rising, missing ones last", 0, 1, 2, 0, 3, 5, 1, 4);
        Check.due("falling", x.sort(0, 1, 0, true), 1);
        row(x, "falling, like ones as they stood", 0, 1, 5, 0, 3, 2, 1, 4);
        Check.due("an edit even if nothing moves", x.sort(0, 1, 0, true), 1);
        int kept = x.count(3);
        Check.due("by a list", x.sort(0, 1, 1, false), 1);
        row(x, "as they stood", 0, 1, 5, 0, 3, 2, 1, 4);
        x.lead(0, 2, 0);
        x.lead(5, 2, 1);
        x.sort(0, 1, 2, false);
        row(x, "a link is no number", 0, 1, 5, 0, 3, 2, 1, 4);
        x.sort(0, 1, 7, true);
        row(x, "by none", 0, 1, 5, 0, 3, 2, 1, 4);
        Check.due("each is kept", x.count(3), kept + 5);
        Check.due("g 8", x.sort(0, 1, 8, false), FieldEditor.RANGE);
        Check.due("g -1", x.sort(0, 1, -1, false), FieldEditor.RANGE);
        Check.due("no list", x.sort(0, 0, 8, false), FieldEditor.KIND);
        Check.due("field 3", x.sort(0, 3, 0, false), FieldEditor.BAD);
        Check.due("object 6", x.sort(6, 1, 0, false), FieldEditor.BAD);
        Check.due("an empty one", x.sort(1, 1, 0, false), 1);
    }

    private static void sortKinds() {
        FieldEditor x = new FieldEditor();
        x.shape(FieldEditor.NONE);
        x.link(0, 0, true, false, false, true);
        x.derived(0, 3, 0, 0);
        x.shape(0);
        x.number(1, 0, 9, false, false);
        x.object(0);
        x.object(1);
        x.object(1);
        x.insert(0, 0, 0, 0);
        x.insert(0, 0, 1, 1);
        x.insert(0, 0, 2, 2);
        x.set(1, 2, 8);
        x.set(2, 2, 4);
        x.sort(0, 0, 2, false);
        row(x, "one that has it not is last", 0, 0, 2, 1, 0);
        x.sort(0, 0, 2, true);
        row(x, "falling, too", 0, 0, 1, 2, 0);
        x.insert(2, 0, 0, 0);
        x.sort(0, 0, 1, false);
        row(x, "by a derived one", 0, 0, 1, 2, 0);
        x.sort(0, 0, 1, true);
        row(x, "by a derived one, falling", 0, 0, 0, 2, 1);
    }

    private static void refusedChangesNothing() {
        FieldEditor x = linked(2);
        x.insert(0, 2, 0, 1);
        x.lead(0, 1, 1);
        x.undo();
        long before = x.digest();
        x.lead(1, 0, 0);
        x.insert(1, 2, 0, 0);
        x.insert(0, 2, 3, 1);
        x.remove(0, 2, 1);
        x.sort(0, 2, 9, false);
        x.set(0, 0, 1);
        x.unset(0, 2);
        Check.due("refused edits change nothing, nor what can be done again", x.digest(), before);
    }

    private static void row(FieldEditor x, String what, int object, int field, int... due) {
        Check.due(what + ": length", x.get(object, field), due.length);
        for (int k = 0; k < due.length; k++) Check.due(what + ": place " + k, x.element(object, field, k), due[k]);
    }
}
