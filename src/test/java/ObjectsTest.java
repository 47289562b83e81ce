/** Promises 7 to 12: object, get, element, shapeOf, holders, holds. */
public final class ObjectsTest {
    private static final int MISSING = FieldEditor.MISSING;

    public static void main(String[] args) {
        object();
        objectIsNoEdit();
        get();
        element();
        shapeOf();
        holders();
        holds();
        Check.end();
    }

    /** Field 0 a number, 1 a link, 2 a weak link, 3 a list, 4 a weak list, 5 the length of 3. */
    private static FieldEditor made(int objects) {
        FieldEditor x = new FieldEditor();
        x.shape(FieldEditor.NONE);
        x.number(0, -9, 9, false, false);
        x.link(0, 0, false, false, false, false);
        x.link(0, 0, false, false, false, true);
        x.link(0, 0, true, false, false, false);
        x.link(0, 0, true, false, false, true);
        x.derived(0, 3, 3, 0);
        for (int k = 0; k < objects; k++) x.object(0);
        return x;
    }

    private static void object() {
        FieldEditor x = made(0);
        Check.due("shape 1", x.object(1), FieldEditor.BAD);
        Check.due("shape -1", x.object(-1), FieldEditor.BAD);
        for (int k = 0; k < 60; k++) Check.due("object " + k, x.object(0), k);
        Check.due("a 61st", x.object(0), FieldEditor.FULL);
        Check.due("BAD ahead of FULL", x.object(1), FieldEditor.BAD);
        Check.due("count", x.count(1), 60);
    }

    private static void objectIsNoEdit() {
        FieldEditor x = made(1);
        x.set(0, 0, 3);
        x.undo();
        x.object(0);
        Check.due("nothing to be undone", x.count(3), 0);
        Check.due("what was undone can still be done again", x.redo(), 0);
        Check.due("and is", x.get(0, 0), 3);
        x.begin();
        x.object(0);
        Check.due("no edit of a group", x.count(5), 0);
        Check.due("abort leaves it", x.abort() + x.count(1), 3);
    }

    private static void get() {
        FieldEditor x = made(2);
        int[] first = {MISSING, MISSING, MISSING, 0, 0, 0};
        for (int f = 0; f < 6; f++) Check.due("at first " + f, x.get(0, f), first[f]);
        x.set(0, 0, -9);
        x.lead(0, 1, 1);
        x.insert(0, 3, 0, 1);
        x.insert(0, 3, 0, 1);
        x.insert(0, 4, 0, 1);
        int[] then = {-9, 1, MISSING, 2, 1, 2};
        for (int f = 0; f < 6; f++) Check.due("then " + f, x.get(0, f), then[f]);
        for (int f = 0; f < 6; f++) Check.due("of the other " + f, x.get(1, f), first[f]);
        Check.due("field 6", x.get(0, 6), FieldEditor.NONE);
        Check.due("field 8", x.get(0, 8), FieldEditor.NONE);
        Check.due("field -1", x.get(0, -1), FieldEditor.NONE);
        Check.due("object 2", x.get(2, 0), FieldEditor.NONE);
        Check.due("object -1", x.get(-1, 0), FieldEditor.NONE);
        Check.due("object 60", x.get(60, 0), FieldEditor.NONE);
    }

    private static void element() {
        FieldEditor x = made(3);
        x.insert(0, 3, 0, 1);
        x.insert(0, 3, 1, 2);
        x.set(0, 0, 1);
        x.lead(0, 1, 1);
        Check.due("place 0", x.element(0, 3, 0), 1);
        Check.due("place 1", x.element(0, 3, 1), 2);
        Check.due("place 2", x.element(0, 3, 2), FieldEditor.NONE);
        Check.due("place -1", x.element(0, 3, -1), FieldEditor.NONE);
        Check.due("of an empty list", x.element(0, 4, 0), FieldEditor.NONE);
        Check.due("of a number", x.element(0, 0, 0), FieldEditor.NONE);
        Check.due("of a link", x.element(0, 1, 0), FieldEditor.NONE);
        Check.due("of a derived one", x.element(0, 5, 0), FieldEditor.NONE);
        Check.due("of none", x.element(0, 6, 0), FieldEditor.NONE);
        Check.due("of field -1", x.element(0, -1, 0), FieldEditor.NONE);
        Check.due("object 3", x.element(3, 3, 0), FieldEditor.BAD);
        Check.due("object -1", x.element(-1, 3, 0), FieldEditor.BAD);
    }

    private static void shapeOf() {
        FieldEditor x = made(1);
        x.shape(0);
        x.object(1);
        Check.due("of 0", x.shapeOf(0), 0);
        Check.due("of 1", x.shapeOf(1), 1);
        Check.due("of 2", x.shapeOf(2), FieldEditor.BAD);
        Check.due("of -1", x.shapeOf(-1), FieldEditor.BAD);
        Check.due("of 60", x.shapeOf(60), FieldEditor.BAD);
    }

    private static void holders() {
        FieldEditor x = made(3);
        Check.due("none", x.holders(2), 0);
        x.set(0, 0, 2);
        Check.due("a number leads nowhere", x.holders(2), 0);
        x.lead(0, 1, 2);
        x.lead(1, 2, 2);
        Check.due("links, weak ones too", x.holders(2), 2);
        x.insert(0, 3, 0, 2);
        x.insert(0, 3, 0, 2);
        x.insert(2, 4, 0, 2);
        Check.due("each place of lists, its own too", x.holders(2), 5);
        Check.due("not those of others", x.holders(0) + x.holders(1), 0);
        x.undo();
        x.remove(0, 3, 0);
        x.unset(0, 1);
        Check.due("gone again", x.holders(2), 2);
        Check.due("object 3", x.holders(3), FieldEditor.BAD);
        FieldEditor y = new FieldEditor();
        y.shape(FieldEditor.NONE);
        y.link(0, 0, false, false, false, false);
        y.object(0);
        y.object(0);
        y.lead(1, 0, 0);
        Check.due("by the first field", y.holders(0), 1);
        Check.due("object -1", x.holders(-1), FieldEditor.BAD);
    }

    private static void holds() {
        FieldEditor x = made(6);
        x.lead(0, 1, 1);
        x.insert(1, 3, 0, 5);
        x.insert(1, 3, 1, 2);
        x.lead(2, 2, 3);
        x.insert(2, 4, 0, 4);
        Check.due("a link", x.holds(0, 1), 1);
        Check.due("a list", x.holds(1, 2), 1);
        Check.due("at a distance", x.holds(0, 2), 1);
        Check.due("a weak link", x.holds(2, 3), 0);
        Check.due("a weak list", x.holds(2, 4), 0);
        Check.due("weak at a distance", x.holds(0, 3), 0);
        Check.due("the other way", x.holds(2, 0), 0);
        Check.due("itself", x.holds(0, 0), 0);
        x.insert(4, 4, 0, 4);
        Check.due("itself, weak", x.holds(4, 4), 0);
        Check.due("object 6", x.holds(6, 0), FieldEditor.BAD);
        Check.due("other 6", x.holds(0, 6), FieldEditor.BAD);
        Check.due("object -1", x.holds(-1, 0), FieldEditor.BAD);
        Check.due("other -1", x.holds(0, -1), FieldEditor.BAD);
        FieldEditor y = made(60);
        for (int k = 0; k < 59; k++) y.lead(k, 1, k + 1);
        Check.due("the longest row", y.holds(0, 59), 1);
        Check.due("its end", y.holds(59, 0), 0);
    }
}
