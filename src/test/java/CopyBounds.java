/** The bounds of promises 29 and 30. */
final class CopyBounds {
    private CopyBounds() {
    }

    static void all() {
        copyBad();
        copyFull();
        copyOfAllThatIsHeld();
        copyWeak();
        copyOrder();
        copyIsNoEdit();
        alikeVerySame();
        alikeNumbers();
        alikeLinks();
        alikeLists();
        alikeLoops();
        alikeAgain();
        alikeBad();
    }

    /** Number 0, link 1, list 2, weak link 3, weak list 4; shape 1 below it. */
    private static Story made(int objects) {
        return Story.of("shape(NONE); number(0, -9, 99, false, false); link(0, 0, false, false, false, false)")
            .then("link(0, 0, true, false, false, false); link(0, 0, false, false, false, true)")
            .then("link(0, 0, true, false, false, true); shape(0)").times(objects, "object(0) = #")
            .stirredBy("insert(0, 4, 0, 0)");
    }

    private static void copyBad() {
        Doc.says(29, "BAD;");
        made(2).answers("copy(0) = 2", "copy(1) = 2")
            .refuses("copy(-1) = BAD", "copy(2) = BAD", "copy(60) = BAD", "copy(LEAST) = BAD", "copy(MOST) = BAD");
        made(60).refuses("copy(60) = BAD", "copy(-1) = BAD");
    }

    private static void copyFull() {
        Doc.says(29, "FULL: there would be more than 60.");
        made(59).then("copy(58) = 59").tells("count(1) = 60").refuses("copy(0) = FULL", "copy(59) = FULL");
        made(58).then("lead(0, 1, 1)").answers("copy(0) = 58");
        made(59).then("lead(0, 1, 1)").refuses("copy(0) = FULL").answers("copy(1) = 59");
        made(30).times(29, "lead(#, 1, #+1)").then("copy(0) = 30").tells("count(1) = 60", "holds(30, 59) = 1");
        made(31).times(30, "lead(#, 1, #+1)").refuses("copy(0) = FULL").then("copy(2) = 31").tells("count(1) = 60");
        made(60).times(59, "lead(#, 1, #+1)").refuses("copy(0) = FULL", "copy(59) = FULL");
        made(59).then("lead(0, 3, 1); insert(0, 4, 0, 2)").answers("copy(0) = 59");
        made(60).then("set(0, 0, 1); undo()").refuses("copy(0) = FULL");
    }

    private static void copyOfAllThatIsHeld() {
        Doc.says(29, "A copy of an OBJECT, and of all that it HOLDS at whatever distance, each once,");
        made(1).then("copy(0) = 1").tells("get(1, 0) = MISSING", "get(1, 1) = MISSING", "get(1, 2) = 0", "count(1) = 2");
        made(3).then("lead(0, 1, 1); insert(0, 2, 0, 1); insert(0, 2, 1, 1); lead(1, 1, 2); copy(0) = 3")
            .tells("count(1) = 6", "get(3, 1) = 4", "element(3, 2, 0) = 4", "element(3, 2, 1) = 4", "get(4, 1) = 5",
            "get(0, 1) = 1");
        made(1).then("object(1); copy(1) = 2").tells("shapeOf(2) = 1");
        made(2).times(6, "insert(0, 2, 0, 1)").then("copy(0) = 2")
            .tells("count(1) = 4", "get(2, 2) = 6", "element(2, 2, 5) = 3", "element(0, 2, 5) = 1");
        made(1).then("set(0, 0, 5); copy(0) = 1; set(1, 0, 6)").tells("get(0, 0) = 5", "get(1, 0) = 6");
    }

    private static void copyWeak() {
        Doc.says(29, "WEAK ones leading to copies of these, else to what they led to:");
        made(3).then("lead(0, 1, 1); lead(1, 3, 0); lead(0, 3, 2); insert(0, 4, 0, 1); insert(0, 4, 1, 2); copy(0) = 3")
            .tells("count(1) = 5", "get(4, 3) = 3", "get(3, 3) = 2", "element(3, 4, 0) = 4", "element(3, 4, 1) = 2");
        made(1).then("lead(0, 3, 0); copy(0) = 1").tells("get(1, 3) = 1", "get(0, 3) = 0");
        made(2).then("lead(0, 1, 1); lead(1, 3, 0); copy(1) = 2").tells("get(2, 3) = 0", "holders(1) = 1");
        made(1).then("copy(0) = 1").tells("get(1, 3) = MISSING", "get(1, 4) = 0");
    }

    private static void copyOrder() {
        Doc.says(29, "the number of the first; the others follow in the order in which they are come to, by FIELDS, places, "
            + "each OBJECT's all ahead of those of the next one.");
        Story tree = made(7).times(7, "set(#, 0, #)").then("lead(0, 1, 3); insert(0, 2, 0, 5); insert(0, 2, 1, 1)")
            .then("lead(3, 1, 6); insert(5, 2, 0, 4); lead(1, 1, 2); insert(6, 2, 0, 2); copy(0) = 7");
        int[] order = {0, 3, 5, 1, 6, 4, 2};
        for (int k = 0; k < order.length; k++) tree.tells("get(" + (7 + k) + ", 0) = " + order[k]);
    }

    private static void copyIsNoEdit() {
        Doc.says(29, "READ ONLY is not asked; nothing is noted, or undone.");
        Story one = Story.of("shape(NONE); number(0, 0, 9, true, true); link(0, 0, false, true, true, true); object(0)")
            .then("watch(0, 0, true, 3); watch(0, 1, false, 0); lead(0, 1, 0); set(0, 0, 3); set(0, 0, 1) = READ_ONLY");
        Story copied = one.then("copy(0) = 1");
        copied.tells("get(1, 0) = 3", "get(1, 1) = 1", "note(0, 1, 0) = NONE", "note(1, 1, 0) = NONE", "count(3) = 2",
            "count(4) = 0")
            .refuses("set(1, 0, 1) = READ_ONLY", "lead(1, 1, 0) = READ_ONLY");
        copied.then("undo() = 1; undo() = 0").tells("count(1) = 2", "get(1, 0) = 3", "get(0, 0) = MISSING");
        one.then("undo(); copy(0) = 1").tells("count(4) = 1", "get(1, 0) = MISSING").then("redo() = 0")
            .tells("get(0, 0) = 3", "get(1, 0) = MISSING");
        one.then("begin(); copy(0)").tells("count(5) = 0").then("abort() = 0").tells("count(1) = 2");
        Story above = Story.of("shape(NONE); number(0, 0, 9, false, false); object(0); set(0, 0, 9); watch(0, 0, true, 3)");
        above.then("copy(0) = 1").tells("get(1, 0) = 9");
    }

    private static void alikeVerySame() {
        Doc.says(30, "Whether two OBJECTS are alike: the very same one, or of one SHAPE,");
        made(2).then("object(1)").tells("alike(0, 0) = 1", "alike(2, 2) = 1", "alike(0, 1) = 1", "alike(0, 2) = 0",
            "alike(2, 0) = 0");
        Story empty = Story.of("shape(NONE); shape(NONE); object(0); object(1); object(0)");
        empty.tells("alike(0, 1) = 0", "alike(0, 2) = 1");
    }

    private static void alikeNumbers() {
        Doc.says(30, "with like NUMBERS,");
        made(2).then("set(0, 0, 0)").tells("alike(0, 1) = 0", "alike(1, 0) = 0").then("set(1, 0, 0)").tells("alike(0, 1) = 1")
            .then("set(1, 0, 1)").tells("alike(0, 1) = 0");
        Story last = Story.of("shape(NONE)").times(8, "number(0, 0, 9, false, false)").then("object(0); object(0)");
        last.then("set(0, 7, 1)").tells("alike(0, 1) = 0").then("set(1, 7, 1)").tells("alike(0, 1) = 1");
        made(2).then("set(0, 0, 0); set(1, 0, 1)").tells("alike(0, 1) = 0", "alike(0, 0) = 1");
    }

    private static void alikeLinks() {
        Doc.says(30, "and LINKS, LISTS to such as are alike,");
        for (int link : new int[] {1, 3}) {
            Story one = made(4).then("lead(0, " + link + ", 2)").tells("alike(0, 1) = 0", "alike(1, 0) = 0");
            one.then("lead(1, " + link + ", 3)").tells("alike(0, 1) = 1").then("set(3, 0, 1)")
                .tells("alike(0, 1) = 0", "alike(1, 0) = 0");
            one.then("lead(1, " + link + ", 2)").tells("alike(0, 1) = 1");
        }
        Story chains = made(60).times(29, "lead(#, 1, #+1)").then("copy(0) = FULL");
        chains.tells("alike(0, 29) = 0", "alike(0, 30) = 0", "alike(29, 30) = 1");
    }

    private static void alikeLists() {
        Doc.says(30, "LISTS to such as are alike,");
        for (int list : new int[] {2, 4}) {
            Story one = made(4).then("set(3, 0, 1); insert(0, " + list + ", 0, 2)").tells("alike(0, 1) = 0", "alike(1, 0) = 0");
            one.then("insert(1, " + list + ", 0, 2)").tells("alike(0, 1) = 1");
            one.then("insert(1, " + list + ", 0, 3)").tells("alike(0, 1) = 0");
            Story two = one.then("insert(0, " + list + ", 1, 3); insert(1, " + list + ", 0, 2)")
                .tells("alike(0, 1) = 0", "alike(1, 0) = 0");
            two.then("insert(1, " + list + ", 0, 3)").tells("alike(0, 1) = 0").then("sort(1, " + list + ", 0, true)")
                .tells("alike(0, 1) = 0");
            two.then("insert(1, " + list + ", 1, 3)").tells("alike(0, 1) = 1");
        }
        Story six = made(3).times(6, "insert(0, 2, #, 2)").times(5, "insert(1, 2, #, 2)");
        six.tells("alike(0, 1) = 0").then("insert(1, 2, 5, 2)").tells("alike(0, 1) = 1");
    }

    private static void alikeLoops() {
        Doc.says(30, "taking pairs that are being looked at as alike: 1, 0.");
        Story loops = made(4).then("lead(0, 3, 1); lead(1, 3, 0); lead(2, 3, 2)");
        loops.tells("alike(0, 1) = 1", "alike(0, 2) = 1", "alike(2, 1) = 1", "alike(0, 3) = 0");
        loops.then("set(1, 0, 1)").tells("alike(0, 1) = 0", "alike(0, 2) = 0", "alike(2, 2) = 1");
        Story round = made(60).times(59, "lead(#, 3, #+1)").then("lead(59, 3, 0)");
        round.tells("alike(0, 1) = 1", "alike(1, 0) = 1", "alike(0, 59) = 1", "alike(59, 0) = 1", "alike(30, 0) = 1");
        round.then("set(30, 0, 1)").tells("alike(0, 1) = 0", "alike(59, 0) = 0", "alike(31, 31) = 1");
    }

    /** What was asked ahead has no say in what is asked next. */
    private static void alikeAgain() {
        Doc.says(30, "taking pairs that are being looked at as alike: 1, 0.");
        Story mixed = made(6).then("set(0, 0, 1); set(5, 0, 1); lead(1, 3, 0); lead(2, 3, 3); lead(4, 3, 5)");
        mixed.then("alike(1, 2) = 0; alike(1, 4) = 1; alike(3, 3) = 1; alike(0, 5) = 1; alike(5, 0) = 1")
            .then("alike(3, 0) = 0; alike(0, 3) = 0; alike(4, 1) = 1");
        Story twins = made(4)
            .then("set(1, 0, 1); alike(1, 0) = 0; alike(0, 1) = 0; alike(2, 3) = 1; alike(3, 2) = 1; alike(2, 0) = 1; alike(2, 1) = 0");
        twins.tells("alike(0, 2) = 1", "alike(0, 1) = 0");
        Story round = made(60).times(59, "lead(#, 3, #+1)").then("lead(59, 3, 0)");
        round.times(10, "alike(0, 1) = 1; alike(30, 7) = 1").then("set(59, 0, 1)")
            .times(10, "alike(0, 1) = 0; alike(30, 7) = 0; alike(#, #) = 1");
    }

    private static void alikeBad() {
        Doc.says(30, "BAD.");
        made(2).refuses("alike(-1, 0) = BAD", "alike(0, -1) = BAD", "alike(2, 0) = BAD", "alike(0, 2) = BAD", "alike(2, 2) = BAD",
            "alike(60, 0) = BAD",
            "alike(0, 60) = BAD", "alike(LEAST, 0) = BAD", "alike(0, LEAST) = BAD", "alike(MOST, MOST) = BAD");
    }
}
