/** Every way in which a call can be refused, in a world that has something of everything to be changed. */
final class RefusalBounds {
    private RefusalBounds() {
    }

    static void all() {
        shapesAndObjects();
        edits();
        groups();
        pathsAndCopies();
        watches();
    }

    /**
     * Shape 0: number 0, read only number 1, required number 2, link 3, read only link 4, list 5, weak list 6, length 7.
     * Shapes 1 and 2 stand beside it; shape 2, with a number, is open. Objects 0 .. 2 of shape 0, 3 of shape 1.
     * A path of two steps that finds something, a watch with a note, and one that vetoes.
     */
    private static Story world() {
        return Story.of("shape(NONE); number(0, -5, 5, false, false); number(0, -5, 5, false, true)")
            .then("number(0, -5, 5, true, false); link(0, 0, false, false, false, false); link(0, 0, false, false, true, false)")
            .then("link(0, 0, true, false, false, false); link(0, 0, true, false, false, true); derived(0, 3, 5, 0)")
            .then("shape(NONE); shape(NONE); number(2, 0, 9, false, false); object(0); object(0); object(0); object(1)")
            .then("path(); step(0, 0, 5); step(0, 3, 0); watch(0, 0, false, 0); watch(0, 0, true, 4); watch(0, 6, false, 0)")
            .then("set(0, 0, 1); set(0, 1, 1); lead(0, 3, 1); lead(0, 4, 1); insert(0, 5, 0, 1)")
            .stirredBy("insert(2, 6, 0, 2)");
    }

    private static void shapesAndObjects() {
        Doc.says("Refused, changing nothing,");
        world().refuses("shape(3) = BAD", "number(3, 0, 9, false, false) = BAD", "number(2, 9, 0, false, false) = BAD",
            "number(0, 0, 9, false, false) = NO", "link(2, 3, false, false, false, false) = BAD",
            "link(2, 0, true, true, false, false) = BAD", "link(1, 0, false, false, false, false) = NO",
            "derived(2, 6, 0, 0) = BAD", "derived(2, 0, 1, 0) = BAD", "derived(2, 3, 0, 0) = BAD", "derived(0, 5, 0, 0) = NO",
            "told(3, 0, 0) = BAD", "told(0, 0, 4) = BAD", "told(0, 8, 0) = NONE");
        world().refuses("object(3) = BAD", "get(4, 0) = NONE", "get(0, 8) = NONE", "element(4, 5, 0) = BAD",
            "element(0, 0, 0) = NONE",
            "element(0, 8, 0) = NONE", "element(0, 5, 1) = NONE", "shapeOf(4) = BAD", "holders(4) = BAD", "holds(4, 0) = BAD",
            "holds(0, 4) = BAD");
    }

    private static void edits() {
        Doc.says("Refused, changing nothing,");
        world().refuses("set(4, 0, 0) = BAD", "set(0, 8, 0) = BAD", "set(0, 3, 0) = KIND", "set(0, 1, 2) = READ_ONLY",
            "set(0, 0, 6) = RANGE", "set(0, 0, 5) = VETO");
        world().refuses("lead(4, 3, 0) = BAD", "lead(0, 3, 4) = BAD", "lead(0, 0, 1) = KIND", "lead(0, 4, 2) = READ_ONLY",
            "lead(0, 3, 3) = SHAPE", "lead(1, 3, 0) = LOOP");
        world().refuses("unset(0, 8) = BAD", "unset(0, 5) = KIND", "unset(0, 1) = READ_ONLY", "unset(0, 2) = REQUIRED");
        world().refuses("insert(0, 8, 0, 1) = BAD", "insert(0, 5, 0, 4) = BAD", "insert(0, 0, 0, 1) = KIND",
            "insert(0, 5, 2, 1) = RANGE", "insert(0, 5, 0, 3) = SHAPE", "insert(0, 5, 0, 0) = LOOP");
        world().refuses("remove(0, 8, 0) = BAD", "remove(0, 0, 0) = KIND", "remove(0, 5, 1) = RANGE");
        world().refuses("sort(0, 8, 0, false) = BAD", "sort(0, 0, 0, false) = KIND", "sort(0, 5, 8, false) = RANGE");
    }

    private static void groups() {
        Doc.says("Refused, changing nothing,");
        Story open = world().then("set(0, 0, 2); undo(); begin()");
        open.refuses("begin() = NO").tells("undo() = NO", "redo() = NO").then("set(0, 0, 3)").tells("undo() = NO", "redo() = NO");
        world().tells("commit() = NO", "abort() = NO", "redo() = NO").then("undo()").tells("commit() = NO", "abort() = NO");
        world().times(5, "undo()").tells("undo() = NO", "commit() = NO", "abort() = NO");
    }

    private static void pathsAndCopies() {
        Doc.says("Refused, changing nothing,");
        world().refuses("step(1, 0, 0) = BAD", "step(0, 5, 0) = BAD", "step(0, 0, 8) = BAD", "step(0, 1, 6) = BAD",
            "step(0, 4, 3) = BAD",
            "fault(1, 0) = BAD", "fault(0, 3) = BAD", "matches(1, 0) = BAD", "matches(0, 4) = BAD", "match(1, 0, 0, 0) = BAD",
            "match(0, 4, 0, 0) = BAD", "match(0, 0, 0, 2) = BAD", "match(0, 0, 1, 0) = NONE");
        world().then("step(0, 0, 5); step(0, 3, 0); step(0, 0, 0)").refuses("step(0, 0, 0) = FULL");
        world().refuses("copy(4) = BAD", "alike(4, 0) = BAD", "alike(0, 4) = BAD");
    }

    private static void watches() {
        Doc.says("Refused, changing nothing,");
        world().refuses("watch(3, 0, false, 0) = BAD", "watch(0, 8, false, 0) = BAD", "watch(0, 7, false, 0) = BAD",
            "watch(0, 3, true, 0) = BAD",
            "note(3, 0, 0) = BAD", "note(0, 0, 3) = BAD", "note(0, 1, 0) = NONE", "count(7) = BAD");
    }
}
