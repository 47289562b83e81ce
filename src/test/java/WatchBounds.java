/** The bounds of promises 31 to 35, and those of watches in the terms. */
final class WatchBounds {
    private WatchBounds() {
    }

    static void all() {
        watchBadShape();
        watchBadField();
        watchBadDerived();
        watchBadVeto();
        watchFull();
        tenWatches();
        notesOfThatShape();
        notesOfUndone();
        fortyNotes();
        derivedNotNoted();
        noteTells();
        noteNone();
        noteBad();
        lacks();
        countNone();
        countBad();
        digestOfNothing();
        digestOfEach();
        digestWraps();
    }

    /** Number 0, weak link 1, weak list 2, sum 3; shape 1 below it. Objects 0, 1 of shape 0, 2 of shape 1. */
    private static Story made() {
        return Story.of("shape(NONE); number(0, -99, 99, false, false); link(0, 0, false, false, false, true)")
            .then("link(0, 0, true, false, false, true); derived(0, 0, 0, 0); shape(0); number(1, 0, 9, false, false)")
            .then("object(0); object(0); object(1)").stirredBy("insert(1, 2, 0, 1)");
    }

    private static void watchBadShape() {
        Doc.says(31, "A WATCH of a SHAPE's FIELD: its number.");
        Doc.says(31, "BAD:");
        made().answers("watch(0, 0, false, 0) = 0", "watch(1, 4, true, 0) = 0");
        made().refuses("watch(-1, 0, false, 0) = BAD", "watch(2, 0, false, 0) = BAD", "watch(10, 0, false, 0) = BAD",
            "watch(LEAST, 0, false, 0) = BAD",
            "watch(MOST, 0, true, 0) = BAD");
    }

    private static void watchBadField() {
        Doc.says(31, "also a FIELD that it has not,");
        made().refuses("watch(0, -1, false, 0) = BAD", "watch(0, 4, false, 0) = BAD", "watch(0, 8, false, 0) = BAD",
            "watch(1, 5, false, 0) = BAD",
            "watch(0, LEAST, false, 0) = BAD", "watch(0, MOST, true, 0) = BAD");
        made().answers("watch(1, 4, false, 0) = 0", "watch(0, 2, false, 0) = 0");
    }

    private static void watchBadDerived() {
        Doc.says(31, "DERIVED,");
        made().refuses("watch(0, 3, false, 0) = BAD", "watch(0, 3, true, 0) = BAD", "watch(1, 3, false, 0) = BAD");
    }

    private static void watchBadVeto() {
        Doc.says(31, "veto: with a LIMIT (of a NUMBER).");
        Doc.says(31, "veto of no NUMBER;");
        made().refuses("watch(0, 1, true, 0) = BAD", "watch(0, 2, true, 0) = BAD", "watch(0, 3, true, 0) = BAD");
        made().answers("watch(0, 1, false, 0) = 0", "watch(0, 2, false, 0) = 0", "watch(0, 0, true, LEAST) = 0",
            "watch(0, 0, true, MOST) = 0");
    }

    private static void watchFull() {
        Doc.says(31, "FULL: 10.");
        Story nine = made().times(9, "watch(0, 0, false, 0) = #");
        nine.answers("watch(0, 0, true, 0) = 9");
        nine.then("watch(0, 0, false, 0) = 9").refuses("watch(0, 0, false, 0) = FULL", "watch(0, 0, true, -99) = FULL",
            "watch(0, 3, false, 0) = BAD",
            "watch(2, 0, false, 0) = BAD").answers("set(0, 0, 99) = 1");
    }

    private static void tenWatches() {
        Doc.says("WATCHES 0 .. 9 are of a SHAPE's FIELD:");
        Story ten = made().times(9, "watch(0, 1, false, 0) = #").then("watch(0, 0, true, 5) = 9");
        ten.refuses("note(10, 0, 0) = BAD", "set(0, 0, 6) = VETO").then("set(0, 0, 5); lead(0, 1, 2)")
            .tells("note(9, 0, 2) = 5", "note(0, 0, 2) = 2", "note(8, 0, 2) = 2", "note(9, 1, 0) = NONE");
    }

    private static void notesOfThatShape() {
        Doc.says("they note each EDIT of it in OBJECTS that are of that SHAPE");
        Story both = made().then("watch(0, 0, false, 0); watch(1, 0, false, 0); watch(1, 4, false, 0)");
        both.then("set(0, 0, 7)").tells("note(0, 0, 0) = 0", "note(1, 0, 0) = NONE", "note(2, 0, 0) = NONE");
        both.then("set(2, 0, 7)").tells("note(0, 0, 0) = 2", "note(1, 0, 0) = 2", "note(2, 0, 0) = NONE");
        both.then("set(2, 4, 7); lead(0, 1, 1)").tells("note(0, 0, 0) = NONE", "note(1, 0, 0) = NONE", "note(2, 0, 0) = 2");
        made().then("set(0, 0, 1); watch(0, 0, false, 0)").tells("note(0, 0, 0) = NONE");
        both.refuses("set(0, 0, 100) = RANGE", "lead(0, 0, 1) = KIND");
        both.then("watch(0, 0, true, 5)").refuses("set(0, 0, 6) = VETO");
    }

    private static void notesOfUndone() {
        Doc.says("(undone ones, too),");
        made().then("watch(0, 0, false, 0); set(0, 0, 7); undo()")
            .tells("note(0, 1, 0) = 0", "note(0, 1, 1) = 7", "note(0, 1, 2) = MISSING", "note(0, 2, 0) = NONE")
            .then("redo()").tells("note(0, 2, 1) = MISSING", "note(0, 2, 2) = 7", "note(0, 3, 0) = NONE");
        made().then("watch(0, 0, false, 0); begin(); set(0, 0, 7); set(1, 0, 8); abort()")
            .tells("note(0, 2, 0) = 1", "note(0, 2, 1) = 8", "note(0, 3, 0) = 0", "note(0, 3, 2) = MISSING",
            "note(0, 4, 0) = NONE");
        made().then("set(0, 0, 7); watch(0, 0, false, 0); undo()").tells("note(0, 0, 1) = 7", "note(0, 0, 2) = MISSING");
    }

    private static void fortyNotes() {
        Doc.says("40 at most;");
        Story all = made().then("watch(0, 0, false, 0)").times(40, "set(0, 0, #)");
        all.tells("note(0, 39, 1) = 38", "note(0, 39, 2) = 39", "note(0, 40, 0) = NONE");
        Story more = all.then("set(0, 0, 40); set(0, 0, 41); undo()");
        more.tells("note(0, 0, 1) = MISSING", "note(0, 0, 2) = 0", "note(0, 39, 2) = 39", "note(0, 40, 0) = NONE",
            "get(0, 0) = 40");
        made().then("watch(0, 0, false, 0)").times(39, "set(0, 0, #)").tells("note(0, 38, 2) = 38", "note(0, 39, 0) = NONE")
            .then("undo()").tells("note(0, 39, 2) = 37", "note(0, 40, 0) = NONE");
        all.then("watch(0, 0, true, 50); set(0, 0, 50)").tells("note(1, 0, 2) = 50", "note(0, 40, 0) = NONE")
            .refuses("set(0, 0, 51) = VETO");
        made().then("watch(0, 0, true, 50)").times(41, "set(0, 0, #)").refuses("set(0, 0, 51) = VETO");
    }

    private static void derivedNotNoted() {
        Doc.says("(What follows DERIVED is not noted.)");
        made().then("watch(0, 0, false, 0); watch(0, 1, false, 0); watch(0, 2, false, 0); set(0, 0, 7)")
            .tells("get(0, 3) = 14", "note(0, 0, 2) = 7", "note(0, 1, 0) = NONE", "note(1, 0, 0) = NONE", "note(2, 0, 0) = NONE");
    }

    private static void noteTells() {
        Doc.says(32, "The k-th note of a WATCH: 0 the OBJECT, 1 what get() told of the FIELD ahead, 2 behind.");
        Story three = made().then("watch(0, 0, false, 0); watch(0, 1, false, 0); watch(0, 2, false, 0)");
        three.then("set(1, 0, -99); unset(1, 0); unset(1, 0)")
            .tells("note(0, 0, 0) = 1", "note(0, 0, 1) = MISSING", "note(0, 0, 2) = -99",
            "note(0, 1, 1) = -99", "note(0, 1, 2) = MISSING", "note(0, 2, 1) = MISSING", "note(0, 2, 2) = MISSING");
        three.then("lead(1, 1, 0); unset(1, 1)").tells("note(1, 0, 1) = MISSING", "note(1, 0, 2) = 0", "note(1, 1, 1) = 0",
            "note(1, 1, 2) = MISSING");
        three.then("insert(1, 2, 0, 0); sort(1, 2, 0, false); remove(1, 2, 0)")
            .tells("note(2, 0, 1) = 0", "note(2, 0, 2) = 1", "note(2, 1, 1) = 1",
            "note(2, 1, 2) = 1", "note(2, 2, 1) = 1", "note(2, 2, 2) = 0");
    }

    private static void noteNone() {
        Doc.says(32, "NONE: not so many.");
        Story one = made().then("watch(0, 0, false, 0)").tells("note(0, 0, 0) = NONE", "note(0, 0, 2) = NONE").then("set(0, 0, 7)");
        one.tells("note(0, 0, 0) = 0", "note(0, 1, 0) = NONE", "note(0, 1, 2) = NONE", "note(0, 40, 0) = NONE",
            "note(0, -1, 0) = NONE",
            "note(0, LEAST, 1) = NONE", "note(0, MOST, 2) = NONE");
    }

    private static void noteBad() {
        Doc.says(32, "BAD: the WATCH, what.");
        made().refuses("note(0, 0, 0) = BAD");
        Story one = made().then("watch(0, 0, false, 0); set(0, 0, 7)");
        one.refuses("note(-1, 0, 0) = BAD", "note(1, 0, 0) = BAD", "note(10, 0, 0) = BAD", "note(LEAST, 0, 0) = BAD",
            "note(MOST, 0, 0) = BAD",
            "note(0, 0, -1) = BAD", "note(0, 0, 3) = BAD", "note(0, 0, LEAST) = BAD", "note(0, 0, MOST) = BAD",
            "note(0, 9, 3) = BAD", "note(1, 9, 0) = BAD");
        one.tells("note(0, 0, 0) = 0", "note(0, 0, 2) = 7");
    }

    private static void lacks() {
        Doc.says(33, "How many REQUIRED FIELDS of OBJECTS are MISSING.");
        Story one = Story.of("shape(NONE)").times(4, "number(0, 0, 9, true, false)")
            .times(4, "link(0, 0, false, true, false, true)");
        one.tells("lacks() = 0").then("object(0)").tells("lacks() = 8");
        one.times(60, "object(0)").tells("lacks() = 480");
        one.then("object(0); set(0, 0, 0); lead(0, 7, 0)").tells("lacks() = 6").then("undo()").tells("lacks() = 7")
            .then("copy(0)").tells("lacks() = 14");
        made().tells("lacks() = 0");
        Story.of("shape(NONE); number(0, 0, 9, false, true); object(0)").tells("lacks() = 0");
    }

    private static void countNone() {
        Doc.says(34, "How many: 0 SHAPES, 1 OBJECTS, 2 PATHS, 3 that can be undone, 4 done again, 5 EDITS of the GROUP that has begun (NONE: none), 6 WATCHES.");
        Story some = made().then("path()").times(4, "watch(0, 0, false, 0)").times(7, "set(0, 0, #)").times(2, "undo()");
        some.tells("count(0) = 2", "count(1) = 3", "count(2) = 1", "count(3) = 5", "count(4) = 2", "count(5) = NONE",
            "count(6) = 4");
        Story open = some.then("begin()").tells("count(5) = 0", "count(3) = 5", "count(4) = 2");
        open.times(3, "set(0, 0, #)").tells("count(5) = 3", "count(3) = 5", "count(4) = 0").then("commit() = 3")
            .tells("count(5) = NONE", "count(3) = 6");
        open.then("abort() = 0").tells("count(5) = NONE");
        Story most = Story.of("shape(NONE); number(0, 0, 99, false, false)").times(9, "shape(NONE)").times(60, "object(0)")
            .times(16, "path()")
            .times(10, "watch(0, 0, false, 0)").times(61, "set(0, 0, #)");
        most.tells("count(0) = 10", "count(1) = 60", "count(2) = 16", "count(3) = 60", "count(6) = 10").times(60, "undo()")
            .tells("count(3) = 0", "count(4) = 60");
    }

    private static void countBad() {
        Doc.says(34, "BAD.");
        made().refuses("count(-1) = BAD", "count(7) = BAD", "count(LEAST) = BAD", "count(MOST) = BAD")
            .tells("count(0) = 2", "count(6) = 0");
    }

    private static long digest(long... values) {
        long h = 71;
        for (long v : values) h = 31 * h + v;
        return h;
    }

    private static void digestOfNothing() {
        Doc.says(35, "h = 71; then h = 31 h + v for each v:");
        Story.of().tells("digest() = " + digest(0, 0));
        Story.of("shape(NONE); number(0, 0, 9, false, false)").tells("digest() = " + digest(0, 0));
        Story.of("shape(NONE); shape(NONE); object(1)").tells("digest() = " + digest(1, 0, 0));
    }

    private static void digestOfEach() {
        Doc.says(35, "of each OBJECT its SHAPE, of its FIELDS get(), of a LIST its OBJECTS; count(3), count(4).");
        long missing = Integer.MIN_VALUE;
        Story one = Story.of("shape(NONE); shape(0); number(1, -9, 9, false, false); link(1, 1, true, false, false, true)")
            .then("link(1, 0, false, false, false, true); derived(1, 3, 1, 0); object(1)");
        one.tells("digest() = " + digest(1, missing, 0, missing, 0, 0, 0));
        Story two = one.then("object(0); set(0, 0, -9); insert(0, 1, 0, 0); insert(0, 1, 1, 0); lead(0, 2, 1); set(0, 0, 9); undo()");
        two.tells("digest() = " + digest(1, -9, 2, 0, 0, 1, 2, 0, 4, 1));
        Story list = one.then("object(1); object(1); insert(1, 1, 0, 2); insert(1, 1, 1, 1)");
        list.tells("digest() = " + digest(1, missing, 0, missing, 0, 1, missing, 2, 2, 1, missing, 2, 1, missing, 0, missing, 0, 2,
            0));
        two.then("begin(); set(0, 0, 8)").tells("digest() = " + digest(1, 8, 2, 0, 0, 1, 2, 0, 4, 0));
    }

    private static void digestWraps() {
        Doc.says(35, "h = 31 h + v");
        Story all = Story.of("shape(NONE)").times(8, "number(0, 0, 2147483647, false, false)").times(60, "object(0)")
            .then("set(59, 7, MOST)");
        long[] values = new long[60 * 9 + 2];
        for (int k = 0; k < 540; k++) values[k] = k % 9 == 0 ? 0 : Integer.MIN_VALUE;
        values[539] = Integer.MAX_VALUE;
        values[540] = 1;
        all.tells("digest() = " + digest(values));
    }
}
