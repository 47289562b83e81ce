/** Promises 29 and 30: copy, alike. */
public final class CopiesTest {
    private static final int MISSING = FieldEditor.MISSING;

    public static void main(String[] args) {
        copyOfOne();
        copyOrder();
        copyWeak();
        copyIsNoEdit();
        copyFull();
        alikeOfOne();
        alikeLinks();
        alikeLists();
        alikeLoops();
        alikeFamilies();
        alikeLong();
        Check.end();
    }

    /** Field 0 a number, 1 a link, 2 a list, 3 a weak link, 4 a weak list, 5 the total of 2. */
    private static FieldEditor made(int objects) {
        FieldEditor x = new FieldEditor();
        x.shape(FieldEditor.NONE);
        x.number(0, 0, 9, false, false);
        x.link(0, 0, false, false, false, false);
        x.link(0, 0, true, false, false, false);
        x.link(0, 0, false, false, false, true);
        x.link(0, 0, true, false, false, true);
        x.derived(0, 4, 2, 0);
        x.shape(0);
        for (int k = 0; k < objects; k++) x.object(0);
        return x;
    }

    private static void copyOfOne() {
        FieldEditor x = made(1);
        x.object(1);
        x.set(1, 0, 4);
        Check.due("a copy", x.copy(1), 2);
        Check.due("its shape", x.shapeOf(2), 1);
        Check.due("its number", x.get(2, 0), 4);
        Check.due("its link", x.get(2, 1), MISSING);
        x.set(2, 0, 5);
        Check.due("the other one stays", x.get(1, 0), 4);
        x.set(1, 0, 6);
        Check.due("and so does the copy", x.get(2, 0), 5);
        Check.due("object 3", x.copy(3), FieldEditor.BAD);
        Check.due("object -1", x.copy(-1), FieldEditor.BAD);
    }

    private static void copyOrder() {
        FieldEditor x = made(7);
        x.lead(0, 1, 3);
        x.insert(0, 2, 0, 5);
        x.insert(0, 2, 1, 1);
        x.insert(0, 2, 2, 5);
        x.lead(3, 1, 6);
        x.insert(3, 2, 0, 1);
        x.lead(5, 1, 2);
        x.lead(1, 1, 2);
        for (int k = 0; k < 7; k++) x.set(k, 0, k);
        Check.due("the first", x.copy(0), 7);
        Check.due("0, 3, 5, 1, 6, 2, each once", x.count(1), 13);
        int[] order = {0, 3, 5, 1, 6, 2};
        for (int k = 0; k < 6; k++) Check.due("place " + k, x.get(7 + k, 0), order[k]);
        Check.due("link", x.get(7, 1), 8);
        Check.due("list 0", x.element(7, 2, 0), 9);
        Check.due("list 1", x.element(7, 2, 1), 10);
        Check.due("list 2", x.element(7, 2, 2), 9);
        Check.due("link of the link", x.get(8, 1), 11);
        Check.due("list of the link", x.element(8, 2, 0), 10);
        Check.due("both lead to one", x.get(9, 1) * 100 + x.get(10, 1), 1212);
        Check.due("total", x.get(7, 5), 11);
        Check.due("those copied stay as they were", x.get(0, 1) * 10 + x.element(0, 2, 0), 35);
    }

    private static void copyWeak() {
        FieldEditor x = made(4);
        x.lead(0, 1, 1);
        x.lead(1, 3, 0);
        x.lead(0, 3, 2);
        x.insert(0, 4, 0, 1);
        x.insert(0, 4, 1, 3);
        x.insert(0, 4, 2, 0);
        Check.due("the first", x.copy(0), 4);
        Check.due("what is weak alone is not copied", x.count(1), 6);
        Check.due("a weak link back", x.get(5, 3), 4);
        Check.due("a weak link elsewhere", x.get(4, 3), 2);
        Check.due("a weak list to a copy", x.element(4, 4, 0), 5);
        Check.due("a weak list elsewhere", x.element(4, 4, 1), 3);
        Check.due("a weak list to itself", x.element(4, 4, 2), 4);
        Check.due("of the other end: it leads to what it led to", x.get(x.copy(1), 3), 0);
    }

    private static void copyIsNoEdit() {
        FieldEditor x = new FieldEditor();
        x.shape(FieldEditor.NONE);
        x.number(0, 0, 9, true, true);
        x.link(0, 0, false, true, true, false);
        x.object(0);
        x.object(0);
        x.watch(0, 0, true, 3);
        x.watch(0, 1, false, 0);
        x.lead(0, 1, 1);
        x.set(0, 0, 3);
        x.undo();
        x.redo();
        x.set(1, 0, 2);
        x.undo();
        int lacking = x.lacks();
        Check.due("copy of read only ones", x.copy(0), 2);
        Check.due("number", x.get(2, 0), 3);
        Check.due("link", x.get(2, 1), 3);
        Check.due("nothing is noted", x.note(1, 1, 0), FieldEditor.NONE);
        Check.due("nothing to be undone", x.count(3), 2);
        Check.due("to be done again", x.count(4), 1);
        Check.due("copies lack what those copied lack", x.lacks(), 2 * lacking);
        Check.due("read only then", x.set(2, 0, 1), FieldEditor.READ_ONLY);
        x.undo();
        x.undo();
        Check.due("undo leaves the copy", x.get(2, 1), 3);
        x.begin();
        x.copy(2);
        Check.due("no edit of a group", x.abort(), 0);
        Check.due("abort leaves the copies", x.count(1), 6);
    }

    private static void copyFull() {
        FieldEditor x = made(57);
        x.lead(0, 1, 1);
        x.lead(1, 1, 2);
        x.lead(2, 1, 3);
        long before = x.digest();
        Check.due("there would be 61", x.copy(0), FieldEditor.FULL);
        Check.due("nothing changed", x.digest(), before);
        Check.due("BAD ahead of FULL", x.copy(60), FieldEditor.BAD);
        Check.due("60 are fine", x.copy(1), 57);
        Check.due("60", x.count(1), 60);
        Check.due("none more", x.copy(5), FieldEditor.FULL);
    }

    private static void alikeOfOne() {
        FieldEditor x = made(2);
        x.object(1);
        Check.due("the very same", x.alike(0, 0), 1);
        Check.due("both without anything", x.alike(0, 1), 1);
        Check.due("of two shapes", x.alike(0, 2), 0);
        x.set(0, 0, 0);
        Check.due("a number that the other lacks", x.alike(0, 1), 0);
        Check.due("the other way", x.alike(1, 0), 0);
        x.set(1, 0, 1);
        Check.due("other numbers", x.alike(0, 1), 0);
        x.set(1, 0, 0);
        Check.due("like numbers", x.alike(0, 1), 1);
        Check.due("not alike, again", x.alike(0, 2), 0);
        Check.due("the very same, whatever was asked ahead", x.alike(1, 1), 1);
        Check.due("object 3", x.alike(3, 0), FieldEditor.BAD);
        Check.due("other 3", x.alike(0, 3), FieldEditor.BAD);
        Check.due("object -1", x.alike(-1, -1), FieldEditor.BAD);
    }

    private static void alikeLinks() {
        for (int link = 1; link <= 3; link += 2) {
            FieldEditor x = made(4);
            x.lead(0, link, 2);
            Check.due("a link that the other lacks", x.alike(0, 1), 0);
            Check.due("the other way", x.alike(1, 0), 0);
            x.lead(1, link, 3);
            Check.due("to such as are alike", x.alike(0, 1), 1);
            x.set(3, 0, 5);
            Check.due("to such as are not", x.alike(0, 1), 0);
            x.lead(1, link, 2);
            Check.due("to the very same", x.alike(0, 1), 1);
        }
    }

    private static void alikeLists() {
        for (int list = 2; list <= 4; list += 2) {
            FieldEditor x = made(6);
            x.set(2, 0, 1);
            x.set(3, 0, 2);
            x.set(4, 0, 1);
            x.set(5, 0, 2);
            x.insert(0, list, 0, 2);
            Check.due("one is longer", x.alike(0, 1), 0);
            x.insert(1, list, 0, 4);
            Check.due("alike", x.alike(0, 1), 1);
            x.insert(0, list, 1, 3);
            x.insert(1, list, 0, 5);
            Check.due("another order", x.alike(0, 1), 0);
            x.sort(1, list, 0, false);
            Check.due("the same order", x.alike(0, 1), 1);
        }
    }

    private static void alikeLoops() {
        FieldEditor x = made(6);
        x.lead(0, 3, 1);
        x.lead(1, 3, 0);
        x.lead(2, 3, 2);
        Check.due("a loop of two and a loop of one", x.alike(0, 2), 1);
        Check.due("the two of one loop", x.alike(0, 1), 1);
        x.lead(3, 3, 4);
        x.lead(4, 3, 5);
        x.lead(5, 3, 3);
        Check.due("loops of two and of three", x.alike(0, 3), 1);
        x.set(5, 0, 1);
        Check.due("one number in it is another", x.alike(0, 3), 0);
        Check.due("seen from any of them", x.alike(5, 4), 0);
        x.unset(5, 0);
        x.unset(5, 3);
        Check.due("one has an end", x.alike(0, 3), 0);
    }

    /** Pairs that follow from others must not hide one that does not. */
    private static void alikeFamilies() {
        FieldEditor x = made(6);
        x.insert(0, 4, 0, 2);
        x.insert(0, 4, 1, 3);
        x.insert(0, 4, 2, 2);
        x.insert(1, 4, 0, 3);
        x.insert(1, 4, 1, 4);
        x.insert(1, 4, 2, 4);
        Check.due("all without anything", x.alike(0, 1), 1);
        x.set(4, 0, 1);
        Check.due("the last of them is another", x.alike(0, 1), 0);
        x.set(2, 0, 1);
        x.set(3, 0, 1);
        Check.due("all like again", x.alike(0, 1), 1);
        FieldEditor y = made(12);
        for (int k = 0; k < 12; k++) {
            for (int p = 0; p < 6; p++) y.insert(k, 4, p, (k * 5 + p * 7) % 12);
            y.lead(k, 3, (k + 1) % 12);
        }
        for (int k = 1; k < 12; k++) Check.due("all lead to all", y.alike(k, 0), 1);
        y.set(7, 0, 3);
        for (int k = 1; k < 12; k++) Check.due("one is another", y.alike(k, 0), 0);
    }

    private static void alikeLong() {
        FieldEditor x = made(60);
        for (int k = 0; k < 59; k++) x.lead(k, 3, k + 1);
        x.lead(59, 3, 0);
        Check.due("around 60", x.alike(0, 1), 1);
        x.set(59, 0, 1);
        Check.due("one of 60 is another", x.alike(0, 1), 0);
    }
}
