/** Promises 19 to 23: begin, commit, abort, undo, redo. */
public final class HistoryTest {
    private static final int MISSING = FieldEditor.MISSING;

    public static void main(String[] args) {
        begin();
        commit();
        abort();
        abortAndRedo();
        undo();
        undoOfEachKind();
        undoOfGroup();
        redo();
        redoEnds();
        sixtyAreKept();
        groupsCountAsOne();
        longGroup();
        beyondThePromisedCalls();
        Check.end();
    }

    /** Field 0 a number, 1 a link, 2 a list; objects 0 .. 2. */
    private static FieldEditor made() {
        FieldEditor x = new FieldEditor();
        x.shape(FieldEditor.NONE);
        x.number(0, 0, 999, false, false);
        x.link(0, 0, false, false, false, false);
        x.link(0, 0, true, false, false, false);
        for (int k = 0; k < 3; k++) x.object(0);
        return x;
    }

    private static void begin() {
        FieldEditor x = made();
        Check.due("none has begun", x.count(5), FieldEditor.NONE);
        Check.due("begin", x.begin(), 1);
        Check.due("it has", x.count(5), 0);
        Check.due("again", x.begin(), FieldEditor.NO);
        x.commit();
        Check.due("behind a commit", x.begin(), 1);
        x.abort();
        Check.due("behind an abort", x.begin(), 1);
    }

    private static void commit() {
        FieldEditor x = made();
        Check.due("none has begun", x.commit(), FieldEditor.NO);
        x.begin();
        Check.due("an empty one", x.commit(), 0);
        Check.due("nothing of it is kept", x.count(3), 0);
        Check.due("over", x.commit(), FieldEditor.NO);
        x.begin();
        x.set(0, 0, 1);
        x.set(0, 0, 1000);
        x.set(0, 0, 2);
        x.lead(0, 1, 1);
        Check.due("refused ones do not count", x.count(5), 3);
        Check.due("nothing can be undone yet", x.count(3), 0);
        Check.due("three", x.commit(), 3);
        Check.due("as one", x.count(3), 1);
        Check.due("over again", x.count(5), FieldEditor.NONE);
        Check.due("the edits stand", x.get(0, 0), 2);
        x.undo();
        x.begin();
        x.commit();
        Check.due("an empty one leaves what can be done again", x.count(4), 1);
    }

    private static void abort() {
        FieldEditor x = made();
        Check.due("none has begun", x.abort(), FieldEditor.NO);
        x.set(0, 0, 7);
        x.begin();
        Check.due("an empty one", x.abort(), 0);
        x.begin();
        x.set(0, 0, 8);
        x.set(0, 0, 9);
        x.insert(0, 2, 0, 1);
        x.insert(0, 2, 0, 2);
        x.remove(0, 2, 1);
        Check.due("five", x.abort(), 5);
        Check.due("the number is back", x.get(0, 0), 7);
        Check.due("the list is back", x.get(0, 2), 0);
        Check.due("over", x.abort(), FieldEditor.NO);
        Check.due("nothing of it to be undone", x.count(3), 1);
        Check.due("nor to be done again", x.count(4), 0);
        Check.due("what was ahead can be", x.undo(), 0);
        Check.due("it is", x.get(0, 0), MISSING);
    }

    private static void abortAndRedo() {
        FieldEditor x = made();
        x.set(0, 0, 1);
        x.undo();
        x.begin();
        x.abort();
        Check.due("no edit came", x.count(4), 1);
        x.begin();
        x.set(1, 0, 5);
        x.abort();
        Check.due("another edit came", x.count(4), 0);
        Check.due("so it can't be done again", x.redo(), FieldEditor.NO);
    }

    private static void undo() {
        FieldEditor x = made();
        Check.due("none", x.undo(), FieldEditor.NO);
        x.set(0, 0, 1);
        x.set(0, 0, 2);
        x.set(1, 0, 3);
        Check.due("the last one first", x.undo(), 2);
        Check.due("object 1", x.get(1, 0), MISSING);
        Check.due("object 0 stands", x.get(0, 0), 2);
        Check.due("next", x.undo(), 1);
        Check.due("object 0 is as it was", x.get(0, 0), 1);
        x.begin();
        Check.due("a group has begun", x.undo(), FieldEditor.NO);
        Check.due("counted all the same", x.count(3), 1);
        x.commit();
        Check.due("the first", x.undo(), 0);
        Check.due("all gone", x.get(0, 0), MISSING);
        Check.due("none left", x.undo(), FieldEditor.NO);
        Check.due("three to do again", x.count(4), 3);
    }

    private static void undoOfEachKind() {
        FieldEditor x = made();
        x.set(1, 0, 5);
        x.set(2, 0, 4);
        x.lead(0, 1, 1);
        x.insert(0, 2, 0, 1);
        x.insert(0, 2, 1, 2);
        long[] digests = new long[7];
        for (int k = 0; k < 6; k++) {
            digests[k] = state(x);
            if (k == 0) x.sort(0, 2, 0, false);
            if (k == 1) x.remove(0, 2, 0);
            if (k == 2) x.unset(0, 1);
            if (k == 3) x.unset(1, 0);
            if (k == 4) x.lead(0, 1, 2);
            if (k == 5) x.insert(0, 2, 0, 2);
        }
        digests[6] = state(x);
        Check.due("sorted", x.undo() + x.undo() + x.undo() + x.undo() + x.undo(), 10 + 9 + 8 + 7 + 6);
        Check.due("place 0 behind the sort", x.element(0, 2, 0), 2);
        for (int k = 0; k < 5; k++) x.redo();
        for (int k = 5; k >= 0; k--) {
            x.undo();
            Check.due("taken back " + k, state(x), digests[k]);
        }
        for (int k = 1; k <= 6; k++) {
            x.redo();
            Check.due("done again " + k, state(x), digests[k]);
        }
    }

    /** The digest without what can be undone and done again. */
    private static long state(FieldEditor x) {
        return x.digest() - 31L * x.count(3) - x.count(4);
    }

    private static void undoOfGroup() {
        FieldEditor x = made();
        x.set(0, 0, 1);
        x.begin();
        x.set(0, 0, 2);
        x.insert(0, 2, 0, 1);
        x.set(0, 0, 3);
        x.commit();
        Check.due("as one", x.undo(), 1);
        Check.due("number", x.get(0, 0), 1);
        Check.due("list", x.get(0, 2), 0);
        Check.due("one to do again", x.count(4), 1);
        Check.due("again", x.redo(), 0);
        Check.due("number again", x.get(0, 0), 3);
        Check.due("list again", x.element(0, 2, 0), 1);
    }

    private static void redo() {
        FieldEditor x = made();
        Check.due("none", x.redo(), FieldEditor.NO);
        x.set(0, 0, 1);
        x.set(0, 0, 2);
        Check.due("nothing was taken back", x.redo(), FieldEditor.NO);
        x.undo();
        x.undo();
        x.begin();
        Check.due("a group has begun", x.redo(), FieldEditor.NO);
        x.commit();
        Check.due("what was taken back last", x.redo(), 1);
        Check.due("comes first", x.get(0, 0), 1);
        Check.due("then the other", x.redo(), 0);
        Check.due("it does", x.get(0, 0), 2);
        Check.due("none left", x.redo(), FieldEditor.NO);
        Check.due("both can be undone", x.count(3), 2);
    }

    private static void redoEnds() {
        FieldEditor x = made();
        x.set(0, 0, 1);
        x.undo();
        x.set(0, 0, 1000);
        Check.due("a refused edit does not end it", x.count(4), 1);
        x.set(1, 0, 4);
        Check.due("another edit does", x.count(4), 0);
        Check.due("none", x.redo(), FieldEditor.NO);
        x.undo();
        x.begin();
        x.set(0, 0, 5);
        Check.due("one in a group does, too", x.count(4), 0);
        x.commit();
        Check.due("none again", x.redo(), FieldEditor.NO);
        x.undo();
        x.object(0);
        x.copy(0);
        x.path();
        Check.due("what is no edit does not", x.redo(), 0);
    }

    private static void sixtyAreKept() {
        FieldEditor x = made();
        for (int k = 1; k <= 60; k++) x.set(0, 0, k);
        Check.due("60", x.count(3), 60);
        x.set(0, 0, 61);
        x.set(0, 0, 62);
        Check.due("still 60", x.count(3), 60);
        for (int k = 59; k >= 0; k--) Check.due("undo", x.undo(), k);
        Check.due("the oldest two went", x.get(0, 0), 2);
        Check.due("no more", x.undo(), FieldEditor.NO);
        for (int k = 59; k >= 0; k--) Check.due("redo", x.redo(), k);
        Check.due("all again", x.get(0, 0), 62);
    }

    private static void groupsCountAsOne() {
        FieldEditor x = made();
        for (int k = 1; k <= 60; k++) x.set(0, 0, k);
        x.begin();
        x.set(0, 0, 61);
        x.set(0, 0, 62);
        x.abort();
        x.begin();
        x.commit();
        Check.due("nothing went for an aborted or an empty group", x.count(3), 60);
        for (int k = 0; k < 60; k++) x.undo();
        Check.due("back to the first", x.get(0, 0), MISSING);
        for (int k = 0; k < 60; k++) x.redo();
        x.begin();
        for (int k = 0; k < 70; k++) x.set(1, 0, k);
        x.commit();
        Check.due("one went for a group", x.count(3), 60);
        Check.due("a group of 70 is taken back whole", x.undo(), 59);
        Check.due("it is", x.get(1, 0), MISSING);
        for (int k = 0; k < 59; k++) x.undo();
        Check.due("the oldest one alone went", x.get(0, 0), 1);
    }

    private static void longGroup() {
        FieldEditor x = made();
        x.begin();
        for (int k = 0; k < 500; k++) Check.due("edit " + k, x.set(0, 0, k), 1);
        Check.due("500", x.count(5), 500);
        Check.due("commit", x.commit(), 500);
        Check.due("undo", x.undo(), 0);
        Check.due("all taken back", x.get(0, 0), MISSING);
    }

    /** What such calls answer is free, but none of them may throw, nor keep more and more. */
    private static void beyondThePromisedCalls() {
        FieldEditor x = made();
        x.begin();
        for (int k = 0; k < 5000; k++) x.set(0, 0, k % 900);
        Check.that("a group has an end", x.count(5) <= 512);
        x.abort();
        Check.due("taken back all the same", x.get(0, 0), MISSING);
        for (int k = 0; k < 5000; k++) x.set(0, 0, k % 900);
        Check.due("60 are kept", x.count(3), 60);
    }
}
