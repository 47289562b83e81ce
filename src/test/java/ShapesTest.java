/** Promises 1 to 6: a new object, shape, number, link, derived, told. */
public final class ShapesTest {
    private static final int MISSING = FieldEditor.MISSING;

    public static void main(String[] args) {
        newObject();
        shape();
        shapesInherit();
        number();
        link();
        derivedOfNumbers();
        derivedOfLists();
        derivedThere();
        derivedRefused();
        derivedValues();
        told();
        Check.end();
    }

    private static void newObject() {
        FieldEditor x = new FieldEditor();
        for (int what : new int[] {0, 1, 2, 3, 4, 6}) Check.due("new: count " + what, x.count(what), 0);
        Check.due("new: no group", x.count(5), FieldEditor.NONE);
        Check.due("new: lacks", x.lacks(), 0);
        Check.due("new: digest", x.digest(), 71L * 31 * 31);
        Check.due("new: told", x.told(0, 0, 0), FieldEditor.BAD);
        Check.due("new: shapeOf", x.shapeOf(0), FieldEditor.BAD);
    }

    private static void shape() {
        FieldEditor x = new FieldEditor();
        Check.due("shape below none there", x.shape(0), FieldEditor.BAD);
        Check.due("shape(-2)", x.shape(-2), FieldEditor.BAD);
        Check.due("shape(least int)", x.shape(MISSING), FieldEditor.BAD);
        for (int k = 0; k < 10; k++) Check.due("shape " + k, x.shape(k - 1), k);
        Check.due("an 11th", x.shape(FieldEditor.NONE), FieldEditor.FULL);
        Check.due("an 11th below the last", x.shape(9), FieldEditor.FULL);
        Check.due("BAD comes ahead of FULL", x.shape(10), FieldEditor.BAD);
        Check.due("count", x.count(0), 10);
    }

    private static void shapesInherit() {
        FieldEditor x = new FieldEditor();
        x.shape(FieldEditor.NONE);
        x.number(0, 3, 4, true, false);
        x.link(0, 0, true, false, false, true);
        Check.due("below", x.shape(0), 1);
        Check.due("fields of the one above come first", x.number(1, 5, 6, false, false), 2);
        Check.due("the one above it has not", x.told(0, 2, 0), FieldEditor.NONE);
        Check.due("inherited kind", x.told(1, 1, 0), 2);
        Check.due("inherited least", x.told(1, 0, 1), 3);
        Check.due("inherited flags", x.told(1, 1, 3), 4);
        Check.due("two levels", x.shape(1), 2);
        Check.due("third level's own", x.number(2, 0, 0, false, false), 3);
        Check.due("no fields from shapes beside", x.shape(FieldEditor.NONE), 3);
        Check.due("its first", x.number(3, 0, 0, false, false), 0);
    }

    private static void number() {
        FieldEditor x = new FieldEditor();
        x.shape(FieldEditor.NONE);
        Check.due("shape not there", x.number(1, 0, 1, false, false), FieldEditor.BAD);
        Check.due("shape -1", x.number(-1, 0, 1, false, false), FieldEditor.BAD);
        Check.due("least above most", x.number(0, 2, 1, false, false), FieldEditor.BAD);
        Check.due("least int", x.number(0, MISSING, 1, false, false), FieldEditor.BAD);
        Check.due("least int for both", x.number(0, MISSING, MISSING, false, false), FieldEditor.BAD);
        Check.due("widest", x.number(0, MISSING + 1, 2147483647, false, false), 0);
        Check.due("one value", x.number(0, 5, 5, false, false), 1);
        for (int k = 2; k < 8; k++) Check.due("field " + k, x.number(0, 0, k, false, false), k);
        Check.due("a 9th", x.number(0, 0, 1, false, false), FieldEditor.FULL);
        Check.due("BAD ahead of FULL", x.number(0, 2, 1, false, false), FieldEditor.BAD);
        x.object(0);
        Check.due("NO ahead of FULL", x.number(0, 0, 1, false, false), FieldEditor.NO);
        Check.due("BAD ahead of NO", x.number(0, 2, 1, false, false), FieldEditor.BAD);
        x.shape(FieldEditor.NONE);
        x.object(1);
        Check.due("an object was made", x.number(1, 0, 1, false, false), FieldEditor.NO);
        x.shape(FieldEditor.NONE);
        x.shape(2);
        Check.due("a shape stands below", x.number(2, 0, 1, false, false), FieldEditor.NO);
        Check.due("the one below takes it", x.number(3, 0, 1, false, false), 0);
        x.object(2);
        Check.due("an object of the one above does not close it", x.number(3, 0, 1, false, false), 1);
        x.shape(0);
        Check.due("inherited fields count for FULL", x.number(4, 0, 1, false, false), FieldEditor.FULL);
    }

    private static void link() {
        FieldEditor x = new FieldEditor();
        x.shape(FieldEditor.NONE);
        Check.due("shape not there", x.link(1, 0, false, false, false, false), FieldEditor.BAD);
        Check.due("shape to not there", x.link(0, 1, false, false, false, false), FieldEditor.BAD);
        Check.due("shape to -1", x.link(0, -1, false, false, false, false), FieldEditor.BAD);
        Check.due("required list", x.link(0, 0, true, true, false, false), FieldEditor.BAD);
        Check.due("read only list", x.link(0, 0, true, false, true, false), FieldEditor.BAD);
        Check.due("link with all flags", x.link(0, 0, false, true, true, true), 0);
        Check.due("weak list", x.link(0, 0, true, false, false, true), 1);
        Check.due("kinds", x.told(0, 0, 0) * 10 + x.told(0, 1, 0), 12);
        for (int k = 2; k < 8; k++) Check.due("field " + k, x.link(0, 0, false, false, false, false), k);
        Check.due("a 9th", x.link(0, 0, false, false, false, false), FieldEditor.FULL);
        x.shape(0);
        Check.due("NO ahead of FULL", x.link(0, 0, false, false, false, false), FieldEditor.NO);
        Check.due("BAD ahead of NO", x.link(0, 2, false, false, false, false), FieldEditor.BAD);
        x.shape(FieldEditor.NONE);
        x.object(2);
        Check.due("an object was made", x.link(2, 0, false, false, false, false), FieldEditor.NO);
    }

    private static void derivedOfNumbers() {
        for (int code = 0; code <= 2; code++) {
            FieldEditor x = new FieldEditor();
            x.shape(FieldEditor.NONE);
            Check.due("its own number", x.derived(0, code, 0, 0), FieldEditor.BAD);
            x.number(0, 0, 9, false, false);
            x.link(0, 0, false, false, false, false);
            x.link(0, 0, true, false, false, false);
            Check.due("f a link", x.derived(0, code, 1, 0), FieldEditor.BAD);
            Check.due("f a list", x.derived(0, code, 2, 0), FieldEditor.BAD);
            Check.due("g a link", x.derived(0, code, 0, 1), FieldEditor.BAD);
            Check.due("g a list", x.derived(0, code, 0, 2), FieldEditor.BAD);
            Check.due("g its own", x.derived(0, code, 0, 3), FieldEditor.BAD);
            Check.due("f its own", x.derived(0, code, 3, 0), FieldEditor.BAD);
            Check.due("f -1", x.derived(0, code, -1, 0), FieldEditor.BAD);
            Check.due("g -1", x.derived(0, code, 0, -1), FieldEditor.BAD);
            Check.due("taken", x.derived(0, code, 0, 0), 3);
            Check.due("of a derived one", x.derived(0, code, 3, 3), 4);
        }
    }

    private static void derivedOfLists() {
        FieldEditor x = new FieldEditor();
        x.shape(FieldEditor.NONE);
        x.shape(FieldEditor.NONE);
        x.number(1, 0, 9, false, false);
        x.link(1, 1, false, false, false, false);
        x.derived(1, 0, 0, 0);
        x.link(0, 1, true, false, false, false);
        x.number(0, 0, 9, false, false);
        x.link(0, 1, false, false, false, false);
        for (int code = 3; code <= 4; code++) {
            Check.due("f a number", x.derived(0, code, 1, 0), FieldEditor.BAD);
            Check.due("f a link", x.derived(0, code, 2, 0), FieldEditor.BAD);
            Check.due("f its own", x.derived(0, code, 3, 0), FieldEditor.BAD);
            Check.due("f -1", x.derived(0, code, -1, 0), FieldEditor.BAD);
        }
        Check.due("total of a link", x.derived(0, 4, 0, 1), FieldEditor.BAD);
        Check.due("total of a derived one", x.derived(0, 4, 0, 2), FieldEditor.BAD);
        Check.due("total of none such", x.derived(0, 4, 0, 3), FieldEditor.BAD);
        Check.due("total of -1", x.derived(0, 4, 0, -1), FieldEditor.BAD);
        Check.due("total", x.derived(0, 4, 0, 0), 3);
        Check.due("length, g not looked at", x.derived(0, 3, 0, -77), 4);
        FieldEditor y = new FieldEditor();
        y.shape(FieldEditor.NONE);
        y.link(0, 0, true, false, false, false);
        Check.due("g not there yet", y.derived(0, 4, 0, 1), FieldEditor.BAD);
        y.number(0, 0, 9, false, false);
        Check.due("g above f", y.derived(0, 4, 0, 1), 2);
    }

    private static void derivedThere() {
        FieldEditor x = new FieldEditor();
        x.shape(FieldEditor.NONE);
        Check.due("of none", x.derived(0, 5, 0, 0), FieldEditor.BAD);
        x.number(0, 0, 9, false, false);
        x.link(0, 0, false, false, false, true);
        x.link(0, 0, true, false, false, true);
        x.derived(0, 2, 0, 0);
        for (int f = 0; f < 4; f++) Check.due("there of " + f, x.derived(0, 5, f, 99), 4 + f);
        x.object(0);
        for (int f = 4; f < 8; f++) Check.due("nothing is there", x.get(0, f), 0);
        x.set(0, 0, 0);
        x.lead(0, 1, 0);
        x.insert(0, 2, 0, 0);
        Check.due("a number 0 is something", x.get(0, 4), 1);
        Check.due("a link to object 0 is something", x.get(0, 5), 1);
        Check.due("a list", x.get(0, 6), 1);
        Check.due("a share by 0 is not", x.get(0, 7), 0);
        x.set(0, 0, 3);
        Check.due("a share is", x.get(0, 7), 1);
    }

    private static void derivedRefused() {
        FieldEditor x = new FieldEditor();
        x.shape(FieldEditor.NONE);
        x.number(0, 0, 9, false, false);
        Check.due("shape not there", x.derived(1, 0, 0, 0), FieldEditor.BAD);
        Check.due("code -1", x.derived(0, -1, 0, 0), FieldEditor.BAD);
        Check.due("code 6", x.derived(0, 6, 0, 0), FieldEditor.BAD);
        for (int k = 1; k < 8; k++) Check.due("field " + k, x.derived(0, 1, k - 1, 0), k);
        Check.due("a 9th", x.derived(0, 1, 0, 0), FieldEditor.FULL);
        Check.due("BAD ahead of FULL", x.derived(0, 1, 8, 0), FieldEditor.BAD);
        x.object(0);
        Check.due("NO ahead of FULL", x.derived(0, 1, 0, 0), FieldEditor.NO);
        x.shape(FieldEditor.NONE);
        x.number(1, 0, 9, false, false);
        x.shape(1);
        Check.due("a shape stands below", x.derived(1, 0, 0, 0), FieldEditor.NO);
        Check.due("follows from an inherited one", x.derived(2, 0, 0, 0), 1);
    }

    private static void derivedValues() {
        FieldEditor x = new FieldEditor();
        x.shape(FieldEditor.NONE);
        x.number(0, MISSING + 1, 2147483647, false, false);
        x.number(0, MISSING + 1, 2147483647, false, false);
        x.link(0, 0, true, false, false, true);
        x.derived(0, 0, 0, 1);
        x.derived(0, 1, 0, 1);
        x.derived(0, 2, 0, 1);
        x.derived(0, 4, 2, 0);
        x.derived(0, 0, 3, 5);
        x.object(0);
        x.object(0);
        for (int f = 3; f < 6; f++) Check.due("of nothing " + f, x.get(0, f), MISSING);
        Check.due("total of an empty list", x.get(0, 6), 0);
        x.set(0, 0, 7);
        for (int f = 3; f < 6; f++) Check.due("one is missing " + f, x.get(0, f), MISSING);
        two(x, 7, -2, 5, 7, -3);
        Check.due("sum of sum and share", x.get(0, 7), 2);
        two(x, -7, 2, -5, 2, -3);
        two(x, 7, 0, 7, 7, MISSING);
        Check.due("missing goes on", x.get(0, 7), MISSING);
        two(x, 2147483647, 2, MISSING + 1, 2147483647, 1073741823);
        two(x, 2147483647, 1, MISSING, 2147483647, 2147483647);
        two(x, MISSING + 1, -1, MISSING, -1, 2147483647);
        x.unset(0, 0);
        Check.due("f is missing", x.get(0, 4), MISSING);
        totals(x);
    }

    private static void two(FieldEditor x, int a, int b, int sum, int most, int share) {
        x.set(0, 0, a);
        x.set(0, 1, b);
        Check.due("sum of " + a + ", " + b, x.get(0, 3), sum);
        Check.due("most of " + a + ", " + b, x.get(0, 4), most);
        Check.due("share of " + a + " by " + b, x.get(0, 5), share);
    }

    private static void totals(FieldEditor x) {
        x.insert(0, 2, 0, 0);
        x.insert(0, 2, 0, 1);
        x.insert(0, 2, 0, 1);
        Check.due("all missing", x.get(0, 6), 0);
        x.set(1, 0, 4);
        Check.due("each place counts, missing ones are left out", x.get(0, 6), 8);
        x.set(1, 0, 1 << 30);
        Check.due("wraps to the least int", x.get(0, 6), MISSING);
        x.set(0, 0, 5);
        Check.due("wraps", x.get(0, 6), MISSING + 5);
    }

    private static void told() {
        FieldEditor x = new FieldEditor();
        x.shape(FieldEditor.NONE);
        x.shape(FieldEditor.NONE);
        x.number(1, -3, 8, true, false);
        x.number(1, -3, 8, false, true);
        x.link(1, 0, false, true, true, true);
        x.link(1, 1, true, false, false, true);
        x.link(1, 1, true, false, false, false);
        x.derived(1, 5, 3, 0);
        x.derived(1, 0, 1, 0);
        int[][] due = {{0, -3, 8, 1}, {0, -3, 8, 2}, {1, 0, -1, 7}, {2, 1, -1, 4}, {2, 1, -1, 0}, {3, 5, 3, 0}, {3, 0, 1, 0}};
        for (int f = 0; f < due.length; f++) {
            for (int what = 0; what < 4; what++) Check.due("told " + f + " " + what, x.told(1, f, what), due[f][what]);
        }
        Check.due("field 7", x.told(1, 7, 0), FieldEditor.NONE);
        Check.due("field -1", x.told(1, -1, 3), FieldEditor.NONE);
        Check.due("field 8", x.told(1, 8, 3), FieldEditor.NONE);
        Check.due("of a shape without fields", x.told(0, 0, 0), FieldEditor.NONE);
        Check.due("what 4", x.told(1, 0, 4), FieldEditor.BAD);
        Check.due("what -1", x.told(1, 0, -1), FieldEditor.BAD);
        Check.due("BAD ahead of NONE", x.told(1, 9, 4), FieldEditor.BAD);
        Check.due("shape 2", x.told(2, 0, 0), FieldEditor.BAD);
        Check.due("shape -1", x.told(-1, 0, 0), FieldEditor.BAD);
    }
}
