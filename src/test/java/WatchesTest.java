/** Promises 31 to 35: watch, note, lacks, count, digest. */
public final class WatchesTest {
    private static final int MISSING = FieldEditor.MISSING;

    public static void main(String[] args) {
        watch();
        veto();
        noteOfEachKind();
        noteOfTakenBack();
        noteOfShapes();
        noteRefused();
        fortyNotes();
        lacks();
        count();
        digest();
        Check.end();
    }

    /** Field 0 a number, 1 a link, 2 a list, 3 a sum; shape 1 below shape 0; objects 0, 1 of 0 and 2 of 1. */
    private static FieldEditor made() {
        FieldEditor x = new FieldEditor();
        x.shape(FieldEditor.NONE);
        x.number(0, -99, 99, false, false);
        x.link(0, 0, false, false, false, true);
        x.link(0, 0, true, false, false, true);
        x.derived(0, 0, 0, 0);
        x.shape(0);
        x.object(0);
        x.object(0);
        x.object(1);
        return x;
    }

    private static void watch() {
        FieldEditor x = made();
        Check.due("no shape", x.watch(2, 0, false, 0), FieldEditor.BAD);
        Check.due("shape -1", x.watch(-1, 0, false, 0), FieldEditor.BAD);
        Check.due("a field it has not", x.watch(0, 4, false, 0), FieldEditor.BAD);
        Check.due("field -1", x.watch(0, -1, false, 0), FieldEditor.BAD);
        Check.due("derived", x.watch(0, 3, false, 0), FieldEditor.BAD);
        Check.due("veto of derived", x.watch(0, 3, true, 0), FieldEditor.BAD);
        Check.due("veto of a link", x.watch(0, 1, true, 0), FieldEditor.BAD);
        Check.due("veto of a list", x.watch(0, 2, true, 0), FieldEditor.BAD);
        for (int k = 0; k < 10; k++) Check.due("watch " + k, x.watch(k % 2, k % 3, false, -k), k);
        Check.due("an 11th", x.watch(0, 0, true, 0), FieldEditor.FULL);
        Check.due("BAD ahead of FULL", x.watch(0, 3, false, 0), FieldEditor.BAD);
        Check.due("count", x.count(6), 10);
    }

    private static void veto() {
        FieldEditor x = made();
        x.watch(0, 0, false, 1);
        Check.due("without a veto the limit is nothing", x.set(0, 0, 50), 1);
        x.watch(1, 0, true, 5);
        Check.due("of another shape", x.set(0, 0, 6), 1);
        Check.due("above", x.set(2, 0, 6), FieldEditor.VETO);
        Check.due("at the limit", x.set(2, 0, 5), 1);
        Check.due("RANGE ahead of VETO", x.set(2, 0, 100), FieldEditor.RANGE);
        x.watch(0, 0, true, -3);
        Check.due("a shape below, too", x.set(2, 0, 4), FieldEditor.VETO);
        Check.due("the lower limit", x.set(2, 0, -3), 1);
        Check.due("what is refused is not noted", x.note(0, 4, 0), FieldEditor.NONE);
        Check.due("nor kept", x.count(3), 4);
        x.undo();
        Check.due("undo asks no veto", x.get(2, 0), 5);
        x.set(0, 0, -4);
        x.undo();
        Check.due("back to one above the limit", x.get(0, 0), 6);
    }

    private static void noteOfEachKind() {
        FieldEditor x = made();
        for (int f = 0; f < 3; f++) x.watch(0, f, false, 0);
        x.set(0, 0, 7);
        x.set(1, 0, 7);
        x.set(1, 0, 7);
        x.unset(1, 0);
        noteDue(x, "set", 0, 0, 0, MISSING, 7);
        noteDue(x, "set of another", 0, 1, 1, MISSING, 7);
        noteDue(x, "the same again", 0, 2, 1, 7, 7);
        noteDue(x, "unset", 0, 3, 1, 7, MISSING);
        Check.due("no more", x.note(0, 4, 0), FieldEditor.NONE);
        x.lead(0, 1, 2);
        x.lead(0, 1, 0);
        noteDue(x, "lead", 1, 0, 0, MISSING, 2);
        noteDue(x, "lead again", 1, 1, 0, 2, 0);
        x.insert(0, 2, 0, 1);
        x.insert(0, 2, 0, 1);
        x.sort(0, 2, 0, false);
        x.remove(0, 2, 0);
        noteDue(x, "insert", 2, 0, 0, 0, 1);
        noteDue(x, "insert again", 2, 1, 0, 1, 2);
        noteDue(x, "sort", 2, 2, 0, 2, 2);
        noteDue(x, "remove", 2, 3, 0, 2, 1);
    }

    private static void noteOfTakenBack() {
        FieldEditor x = made();
        x.set(0, 0, 1);
        x.watch(0, 0, false, 0);
        Check.due("edits ahead of it are not noted", x.note(0, 0, 0), FieldEditor.NONE);
        x.undo();
        x.redo();
        noteDue(x, "undone", 0, 0, 0, 1, MISSING);
        noteDue(x, "done again", 0, 1, 0, MISSING, 1);
        x.begin();
        x.set(0, 0, 2);
        x.set(1, 0, 3);
        x.commit();
        x.undo();
        noteDue(x, "of a group", 0, 2, 0, 1, 2);
        noteDue(x, "of a group, too", 0, 3, 1, MISSING, 3);
        noteDue(x, "the last one first", 0, 4, 1, 3, MISSING);
        noteDue(x, "then the one ahead", 0, 5, 0, 2, 1);
        x.redo();
        noteDue(x, "again in order", 0, 6, 0, 1, 2);
        noteDue(x, "again in order, the other", 0, 7, 1, MISSING, 3);
        x.begin();
        x.set(0, 0, 4);
        x.abort();
        noteDue(x, "aborted", 0, 9, 0, 4, 2);
        Check.due("no more", x.note(0, 10, 0), FieldEditor.NONE);
    }

    private static void noteOfShapes() {
        FieldEditor x = made();
        x.watch(0, 0, false, 0);
        x.watch(1, 0, false, 0);
        x.watch(0, 0, false, 0);
        x.set(0, 0, 1);
        x.set(2, 0, 2);
        noteDue(x, "of the shape", 0, 0, 0, MISSING, 1);
        noteDue(x, "of a shape below", 0, 1, 2, MISSING, 2);
        noteDue(x, "not of the shape above", 1, 0, 2, MISSING, 2);
        Check.due("that alone", x.note(1, 1, 0), FieldEditor.NONE);
        noteDue(x, "two of one field", 2, 1, 2, MISSING, 2);
    }

    private static void noteRefused() {
        FieldEditor x = made();
        Check.due("no watch", x.note(0, 0, 0), FieldEditor.BAD);
        x.watch(0, 0, false, 0);
        x.set(0, 0, 1);
        Check.due("watch -1", x.note(-1, 0, 0), FieldEditor.BAD);
        Check.due("watch 1", x.note(1, 0, 0), FieldEditor.BAD);
        Check.due("what 3", x.note(0, 0, 3), FieldEditor.BAD);
        Check.due("what -1", x.note(0, 0, -1), FieldEditor.BAD);
        Check.due("BAD ahead of NONE", x.note(0, 9, 3), FieldEditor.BAD);
        Check.due("k 1", x.note(0, 1, 0), FieldEditor.NONE);
        Check.due("k -1", x.note(0, -1, 0), FieldEditor.NONE);
        Check.due("k 40", x.note(0, 40, 0), FieldEditor.NONE);
    }

    private static void fortyNotes() {
        FieldEditor x = made();
        x.watch(0, 0, false, 0);
        for (int k = 0; k < 45; k++) Check.due("edit " + k, x.set(0, 0, k), 1);
        noteDue(x, "the first stays", 0, 0, 0, MISSING, 0);
        noteDue(x, "the 40th", 0, 39, 0, 38, 39);
        Check.due("no 41st", x.note(0, 40, 2), FieldEditor.NONE);
        x.watch(0, 0, false, 0);
        x.undo();
        noteDue(x, "another watch has its own", 1, 0, 0, 44, 43);
    }

    private static void noteDue(FieldEditor x, String what, int watch, int k, int object, int ahead, int behind) {
        Check.due(what + ": object", x.note(watch, k, 0), object);
        Check.due(what + ": ahead", x.note(watch, k, 1), ahead);
        Check.due(what + ": behind", x.note(watch, k, 2), behind);
    }

    private static void lacks() {
        FieldEditor x = new FieldEditor();
        x.shape(FieldEditor.NONE);
        x.number(0, 0, 9, true, false);
        x.number(0, 0, 9, false, true);
        x.link(0, 0, false, true, false, true);
        x.link(0, 0, true, false, false, false);
        x.shape(0);
        x.number(1, 0, 9, true, true);
        Check.due("no objects", x.lacks(), 0);
        x.object(0);
        Check.due("two", x.lacks(), 2);
        x.object(1);
        Check.due("inherited ones, too", x.lacks(), 5);
        x.set(0, 0, 0);
        x.lead(0, 2, 0);
        Check.due("no more of the first", x.lacks(), 3);
        x.undo();
        Check.due("undone", x.lacks(), 4);
    }

    private static void count() {
        FieldEditor x = made();
        x.path();
        x.path();
        x.watch(0, 0, false, 0);
        for (int k = 0; k < 5; k++) x.set(0, 0, k);
        x.undo();
        int[] due = {2, 3, 2, 4, 1, -1, 1};
        for (int what = 0; what < 7; what++) Check.due("count " + what, x.count(what), due[what]);
        x.begin();
        Check.due("a group without edits", x.count(5), 0);
        x.set(0, 0, 1);
        x.set(0, 0, 2);
        Check.due("a group of two", x.count(5), 2);
        Check.due("that can be undone", x.count(3), 4);
        Check.due("that can be done again", x.count(4), 0);
        Check.due("what 7", x.count(7), FieldEditor.BAD);
        Check.due("what -1", x.count(-1), FieldEditor.BAD);
        Check.due("what least int", x.count(MISSING), FieldEditor.BAD);
    }

    private static void digest() {
        FieldEditor x = made();
        x.set(0, 0, 7);
        x.lead(0, 1, 2);
        x.insert(1, 2, 0, 2);
        x.insert(1, 2, 1, 0);
        x.set(2, 0, -50);
        x.undo();
        long[] v = {0, 7, 2, 0, 14, 0, MISSING, MISSING, 2, 2, 0, MISSING, 1, MISSING, MISSING, 0, MISSING, 4, 1};
        long h = 71;
        for (long each : v) h = 31 * h + each;
        Check.due("digest", x.digest(), h);
        Check.due("asking changes nothing", x.digest(), h);
        x.redo();
        Check.that("another state", x.digest() != h);
    }
}
