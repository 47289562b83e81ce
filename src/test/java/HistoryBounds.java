/** The bounds of promises 19 to 23, those of kept edits in the terms, and the limit of 512 calls. */
final class HistoryBounds {
    private HistoryBounds() {
    }

    static void all() {
        beginNo();
        commitNo();
        commitOfNone();
        abortNo();
        abortKeepsNothing();
        undoNone();
        undoInGroup();
        undoLastFirst();
        redoNone();
        redoInGroup();
        redoTillAnotherEdit();
        redoNotEndedByOthers();
        groupAsOne();
        sixtyKept();
        sixtyGroupsKept();
        sixtyUndone();
        lastPromisedCall();
        beyondPromisedCalls();
    }

    /** Number 0, weak link 1, weak list 2; objects 0 and 1. */
    private static Story made() {
        return Story.of("shape(NONE); number(0, 0, 999, false, false); link(0, 0, false, false, false, true)")
            .then("link(0, 0, true, false, false, true); object(0); object(0)");
    }

    private static void beginNo() {
        Doc.says(19, "A GROUP begins: 1. NO: one has begun.");
        Story open = made().then("begin() = 1").tells("count(5) = 0");
        open.refuses("begin() = NO");
        open.then("set(0, 0, 1)").refuses("begin() = NO");
        made().then("set(0, 0, 1); undo(); begin()").refuses("begin() = NO");
        open.then("commit()").answers("begin() = 1");
        open.then("abort()").answers("begin() = 1");
        open.then("set(0, 0, 1); commit()").answers("begin() = 1");
    }

    private static void commitNo() {
        Doc.says(20, "NO: none has begun.");
        made().refuses("commit() = NO");
        made().then("set(0, 0, 1)").refuses("commit() = NO");
        made().then("begin(); set(0, 0, 1); commit() = 1").refuses("commit() = NO", "abort() = NO");
        made().then("begin(); abort() = 0").refuses("commit() = NO");
        made().then("set(0, 0, 1); set(0, 0, 2); undo()").refuses("commit() = NO", "abort() = NO");
    }

    private static void commitOfNone() {
        Doc.says(20, "The GROUP is over: how many EDITS it has.");
        made().then("begin(); commit() = 0").tells("count(3) = 0", "count(5) = NONE").refuses("undo() = NO");
        made().then("set(0, 0, 1); undo(); begin(); commit() = 0").tells("count(4) = 1").answers("redo() = 0");
        made().then("begin(); set(0, 0, 1000) = RANGE; lead(0, 0, 1) = KIND; commit() = 0").tells("count(3) = 0");
        made().then("begin(); set(0, 0, 1); commit() = 1").tells("count(3) = 1");
        made().then("begin()").times(100, "set(0, 0, #)").then("commit() = 100").tells("count(3) = 1");
    }

    private static void abortNo() {
        Doc.says(21, "NO.");
        made().refuses("abort() = NO");
        made().then("set(0, 0, 1)").refuses("abort() = NO");
        made().then("begin(); abort() = 0").refuses("abort() = NO");
        made().then("begin(); set(0, 0, 1); commit()").refuses("abort() = NO").tells("get(0, 0) = 1");
    }

    private static void abortKeepsNothing() {
        Doc.says(21, "The GROUP's EDITS are taken back, and it is over, nothing being kept of it (nor to be done again): how many EDITS.");
        Story two = made().then("set(0, 0, 7); begin(); set(0, 0, 8); insert(0, 2, 0, 1); abort() = 2");
        two.tells("get(0, 0) = 7", "get(0, 2) = 0", "count(3) = 1", "count(4) = 0", "count(5) = NONE").refuses("redo() = NO");
        made().then("begin(); abort() = 0").tells("count(3) = 0", "count(4) = 0", "count(5) = NONE");
        made().then("set(0, 0, 1); undo(); begin(); abort() = 0").tells("count(4) = 1").answers("redo() = 0");
        made().times(60, "set(0, 0, #)").then("begin(); set(0, 0, 99); abort() = 1").tells("count(3) = 60", "get(0, 0) = 59");
        made().then("begin()").times(100, "set(0, 0, #)").then("abort() = 100").tells("get(0, 0) = MISSING");
    }

    private static void undoNone() {
        Doc.says(22, "NO: none can,");
        made().refuses("undo() = NO");
        made().then("set(0, 0, 1000) = RANGE").refuses("undo() = NO");
        made().then("set(0, 0, 1); undo() = 0").refuses("undo() = NO");
        made().then("object(0); path(); watch(0, 0, false, 0); copy(0)").refuses("undo() = NO");
    }

    private static void undoInGroup() {
        Doc.says(22, "or a GROUP has begun.");
        Story open = made().then("set(0, 0, 1); begin()");
        open.refuses("undo() = NO").tells("count(3) = 1");
        open.then("set(0, 0, 2)").refuses("undo() = NO");
        open.then("commit()").answers("undo() = 0");
        open.then("abort()").answers("undo() = 0");
    }

    private static void undoLastFirst() {
        Doc.says("EDITS are taken back by UNDO, the last one first,");
        Doc.says(22, "The last EDIT or GROUP is taken back: how many can be still.");
        Story three = made().then("set(0, 0, 1); set(0, 0, 2); set(1, 0, 3)");
        three.then("undo() = 2").tells("get(1, 0) = MISSING", "get(0, 0) = 2").then("undo() = 1").tells("get(0, 0) = 1")
            .then("undo() = 0").tells("get(0, 0) = MISSING", "count(4) = 3");
        String[] edits = {"set(0, 0, 2)", "lead(0, 1, 1)", "unset(0, 0)", "unset(0, 1)", "insert(0, 2, 1, 0)", "remove(0, 2, 0)",
            "sort(0, 2, 0, false)", "set(0, 0, 1)", "sort(1, 2, 7, true)"};
        Story ready = made().then("set(0, 0, 1); lead(0, 1, 0); insert(0, 2, 0, 1); insert(0, 2, 1, 0)");
        for (String edit : edits) {
            Story back = ready.then(edit + " = 1", "undo() = 4");
            back.tells("get(0, 0) = 1", "get(0, 1) = 0", "get(0, 2) = 2", "element(0, 2, 0) = 1", "element(0, 2, 1) = 0");
            Check.due(edit + " is done again", back.then("redo() = 0").answer("digest()"), ready.then(edit).answer("digest()"));
        }
    }

    private static void redoNone() {
        Doc.says(23, "What was taken back last is done again: how many can be still. NO likewise.");
        made().refuses("redo() = NO");
        made().then("set(0, 0, 1)").refuses("redo() = NO");
        Story back = made().then("set(0, 0, 1); set(0, 0, 2); undo(); undo()");
        back.then("redo() = 1").tells("get(0, 0) = 1").then("redo() = 0").tells("get(0, 0) = 2", "count(3) = 2")
            .refuses("redo() = NO");
    }

    private static void redoInGroup() {
        Doc.says(23, "NO likewise.");
        Story open = made().then("set(0, 0, 1); undo(); begin()");
        open.refuses("redo() = NO").tells("count(4) = 1");
        open.then("commit()").answers("redo() = 0");
        open.then("abort()").answers("redo() = 0");
    }

    private static void redoTillAnotherEdit() {
        Doc.says("and done again by REDO, till another EDIT comes;");
        Story back = made().then("insert(0, 2, 0, 1); set(0, 0, 1); undo()");
        back.answers("redo() = 0");
        String[] edits = {"set(1, 0, 5)", "lead(0, 1, 1)", "unset(0, 0)", "insert(0, 2, 0, 0)", "remove(0, 2, 0)",
            "sort(0, 2, 0, true)", "set(0, 0, 1)"};
        for (String edit : edits) {
            back.then(edit + " = 1").tells("count(4) = 0", "count(3) = 2").refuses("redo() = NO");
            back.then("begin()", edit).tells("count(4) = 0").then("commit()").refuses("redo() = NO");
            back.then("begin()", edit, "abort() = 1").tells("count(4) = 0").refuses("redo() = NO");
        }
        back.refuses("set(0, 0, 1000) = RANGE", "lead(0, 0, 0) = KIND", "remove(0, 2, 1) = RANGE");
    }

    private static void redoNotEndedByOthers() {
        Doc.says("till another EDIT comes;");
        Story back = made().then("set(0, 0, 1); undo()");
        for (String other : new String[] {"object(0)", "copy(0)", "path()", "watch(0, 0, true, 0)", "shape(NONE)",
            "begin(); commit()", "begin(); abort()"}) {
            back.then(other).tells("count(4) = 1").then("redo() = 0").tells("get(0, 0) = 1");
        }
    }

    private static void groupAsOne() {
        Doc.says("a GROUP of EDITS is taken as one.");
        Story group = made().then("set(0, 0, 1); begin(); set(0, 0, 2); insert(0, 2, 0, 1); set(0, 0, 3); commit() = 3");
        group.tells("count(3) = 2").then("undo() = 1").tells("get(0, 0) = 1", "get(0, 2) = 0", "count(4) = 1")
            .then("redo() = 0").tells("get(0, 0) = 3", "get(0, 2) = 1", "count(3) = 2");
    }

    private static void sixtyKept() {
        Doc.says("60 are kept; the oldest goes.");
        Story all = made().times(60, "set(0, 0, #)");
        all.tells("count(3) = 60").times(60, "undo()").tells("get(0, 0) = MISSING").refuses("undo() = NO");
        Story more = all.then("set(0, 0, 60)").tells("count(3) = 60", "get(0, 0) = 60");
        more.times(60, "undo()").tells("get(0, 0) = 0", "count(4) = 60").refuses("undo() = NO").times(60, "redo()")
            .tells("get(0, 0) = 60")
            .refuses("redo() = NO");
        made().times(59, "set(0, 0, #)").tells("count(3) = 59").then("set(0, 0, 500)").tells("count(3) = 60");
        more.times(39, "set(0, 0, #)").tells("count(3) = 60").times(60, "undo()").tells("get(0, 0) = 39");
    }

    private static void sixtyGroupsKept() {
        Doc.says("60 are kept;");
        Story group = made().times(60, "set(0, 0, #)").then("begin()").times(61, "set(1, 0, #)");
        group.tells("count(3) = 60", "count(5) = 61").then("commit() = 61").tells("count(3) = 60").then("undo() = 59")
            .tells("get(1, 0) = MISSING")
            .times(59, "undo()").tells("get(0, 0) = 0").refuses("undo() = NO");
        made().times(60, "set(0, 0, #)").then("begin(); commit() = 0").tells("count(3) = 60").times(60, "undo()")
            .tells("get(0, 0) = MISSING");
        made().times(61, "begin(); set(0, 0, #); set(0, 0, #+1); commit() = 2").tells("count(3) = 60").times(60, "undo()")
            .tells("get(0, 0) = 1");
    }

    private static void sixtyUndone() {
        Doc.says("the oldest goes.");
        Story half = made().times(60, "set(0, 0, #)").times(30, "undo()").tells("count(3) = 30", "count(4) = 30", "get(0, 0) = 29");
        half.then("set(0, 0, 99)").tells("count(3) = 31", "count(4) = 0");
        half.times(30, "redo()").tells("count(3) = 60", "get(0, 0) = 59").times(60, "undo()").tells("get(0, 0) = MISSING");
    }

    private static void lastPromisedCall() {
        Doc.says("An object is used for at most 512 calls after it has been made; what later calls answer is free.");
        made().then("begin()").times(502, "set(0, 0, #) = 1").then("commit() = 502; undo() = 0; get(0, 0) = MISSING");
        made().then("begin()").times(504, "set(0, 0, #) = 1").then("abort() = 504");
        made().times(503, "set(0, 0, #) = 1").then("get(0, 0) = 502; undo() = 59; get(0, 0) = 501");
        made().times(253, "insert(0, 2, 0, 1) = 1; remove(0, 2, 0) = 1");
        made().then("watch(0, 0, false, 0)").times(504, "set(0, 0, #) = 1").then("note(0, 39, 2) = 39");
    }

    private static void beyondPromisedCalls() {
        FieldEditor x = new FieldEditor();
        x.shape(FieldEditor.NONE);
        x.number(0, 0, 9, false, false);
        x.object(0);
        for (int round = 0; round < 5; round++) {
            x.begin();
            for (int k = 0; k < 1000; k++) x.set(0, 0, k % 10);
            x.commit();
            x.undo();
        }
        Check.that("later calls end, too", x.count(1) == 1);
    }
}
