/** The bounds of promises 1 to 6, and those of shapes and their fields in the terms. */
final class ShapeBounds {
    private ShapeBounds() {
    }

    static void all() {
        newObject();
        tenShapes();
        shapeBad();
        shapeFull();
        shapeIsWhatIsAbove();
        eightFields();
        numberBad();
        numberLeastAboveMost();
        numberLeastInt();
        fieldsClosed();
        fieldsFull();
        linkBad();
        linkListFlags();
        flagsByKind();
        kinds();
        toldNone();
        toldBad();
        toldElseNone();
        toldFlags();
    }

    private static void newObject() {
        Doc.says(1, "No SHAPES, no OBJECTS.");
        Story fresh = Story.of();
        fresh.tells("count(0) = 0", "count(1) = 0", "count(2) = 0", "count(3) = 0", "count(4) = 0", "count(5) = NONE",
            "count(6) = 0", "lacks() = 0", "digest() = 68231");
        fresh.refuses("shape(0) = BAD", "number(0, 0, 9, false, false) = BAD", "link(0, 0, false, false, false, false) = BAD",
            "derived(0, 5, 0, 0) = BAD", "told(0, 0, 0) = BAD", "object(0) = BAD", "get(0, 0) = NONE", "element(0, 0, 0) = BAD",
            "shapeOf(0) = BAD", "holders(0) = BAD", "holds(0, 0) = BAD", "set(0, 0, 0) = BAD", "lead(0, 0, 0) = BAD",
            "unset(0, 0) = BAD", "insert(0, 0, 0, 0) = BAD", "remove(0, 0, 0) = BAD", "sort(0, 0, 0, false) = BAD",
            "commit() = NO", "abort() = NO", "undo() = NO", "redo() = NO", "step(0, 0, 0) = BAD", "fault(0, 0) = BAD",
            "matches(0, 0) = BAD", "match(0, 0, 0, 0) = BAD", "copy(0) = BAD", "alike(0, 0) = BAD",
            "watch(0, 0, false, 0) = BAD", "note(0, 0, 0) = BAD");
        fresh.answers("shape(NONE) = 0", "path() = 0", "begin() = 1");
    }

    private static void tenShapes() {
        Doc.says("======== 1 SHAPES 0 ..");
        Doc.says("9, as they come, stand below another one, or none;");
        Story below = Story.of("shape(NONE) = 0").times(9, "shape(#) = #+1");
        below.tells("count(0) = 10", "told(9, 0, 0) = NONE");
        below.refuses("told(10, 0, 0) = BAD");
        Story.of().times(10, "shape(NONE) = #").tells("count(0) = 10", "told(9, 0, 0) = NONE");
    }

    private static void shapeBad() {
        Doc.says(2, "A SHAPE below another one (NONE: none): its number. BAD;");
        Story two = Story.of("shape(NONE) = 0; shape(0) = 1");
        two.answers("shape(NONE) = 2", "shape(0) = 2", "shape(1) = 2");
        two.refuses("shape(2) = BAD", "shape(-2) = BAD", "shape(LEAST) = BAD", "shape(MOST) = BAD");
    }

    private static void shapeFull() {
        Doc.says(2, "FULL: 10.");
        Story nine = Story.of().times(9, "shape(NONE) = #");
        nine.answers("shape(NONE) = 9", "shape(8) = 9");
        Story ten = nine.then("shape(NONE) = 9");
        ten.refuses("shape(NONE) = FULL", "shape(0) = FULL", "shape(9) = FULL");
        ten.refuses("shape(10) = BAD", "shape(-2) = BAD");
    }

    private static void shapeIsWhatIsAbove() {
        Doc.says("a SHAPE IS each that it comes to going up, itself, too.");
        Story.of("shape(NONE)").times(9, "shape(#)").then("link(9, 0, false, false, false, true) = 0",
            "link(9, 9, false, false, false, true) = 1", "link(9, 8, true, false, false, true) = 2")
            .times(10, "object(#) = #").times(10, "lead(9, 0, #) = 1")
            .then("lead(9, 1, 9) = 1; lead(9, 1, 8) = SHAPE; lead(9, 1, 0) = SHAPE")
            .then("insert(9, 2, 0, 9) = 1; insert(9, 2, 0, 8) = 1; insert(9, 2, 0, 7) = SHAPE");
    }

    private static void eightFields() {
        Doc.says("FIELDS 0 .. 7 of a SHAPE: those of the one above it, then its own.");
        Story seven = Story.of("shape(NONE)").times(7, "number(0, #, 9, false, false) = #").then("shape(0) = 1");
        seven.tells("told(1, 0, 1) = 0", "told(1, 6, 1) = 6", "told(1, 7, 0) = NONE");
        Story eight = seven.then("number(1, 7, 9, false, false) = 7");
        eight.tells("told(1, 7, 1) = 7", "told(0, 7, 0) = NONE", "told(1, 8, 0) = NONE");
        eight.refuses("number(1, 0, 9, false, false) = FULL");
        eight.then("shape(1) = 2").refuses("number(2, 0, 9, false, false) = FULL");
        Story.of("shape(NONE); shape(0)").answers("number(1, 0, 9, false, false) = 0");
    }

    private static void numberBad() {
        Doc.says(3, "A NUMBER more of a SHAPE: its FIELD's number. BAD:");
        Story two = Story.of("shape(NONE); shape(NONE)");
        two.answers("number(0, 0, 9, false, false) = 0", "number(1, 0, 9, true, true) = 0");
        two.refuses("number(-1, 0, 9, false, false) = BAD", "number(2, 0, 9, false, false) = BAD",
            "number(10, 0, 9, false, false) = BAD", "number(LEAST, 0, 9, false, false) = BAD",
            "number(MOST, 0, 9, false, false) = BAD");
    }

    private static void numberLeastAboveMost() {
        Doc.says(3, "also LEAST above MOST,");
        Story one = Story.of("shape(NONE)");
        one.refuses("number(0, 1, 0, false, false) = BAD", "number(0, 0, -1, false, false) = BAD",
            "number(0, MOST, 2147483646, false, false) = BAD", "number(0, MOST, LEAST, false, false) = BAD");
        one.answers("number(0, 0, 0, false, false) = 0", "number(0, -1, 0, false, false) = 0",
            "number(0, MOST, MOST, false, false) = 0", "number(0, -2147483647, -2147483647, false, false) = 0");
    }

    private static void numberLeastInt() {
        Doc.says(3, "LEAST the least int;");
        Story one = Story.of("shape(NONE)");
        one.refuses("number(0, LEAST, 0, false, false) = BAD", "number(0, LEAST, LEAST, false, false) = BAD",
            "number(0, LEAST, MOST, true, true) = BAD");
        one.then("number(0, -2147483647, MOST, false, false) = 0").tells("told(0, 0, 1) = -2147483647", "told(0, 0, 2) = MOST");
    }

    private static final String[] MORE = {"number(@, 0, 9, false, false)", "link(@, 0, false, false, false, false)",
        "link(@, 0, true, false, false, true)", "derived(@, 1, 0, 0)", "derived(@, 5, 0, 0)"};
    private static final String[] WRONG = {"number(0, 1, 0, false, false)", "link(0, 9, false, false, false, false)",
        "link(0, 0, true, true, false, false)", "derived(0, 6, 0, 0)", "derived(0, 5, 8, 0)"};

    private static String of(String more, int shape) {
        return more.replace("@", String.valueOf(shape));
    }

    private static void fieldsClosed() {
        Doc.says(3, "NO: a SHAPE stands below it, or an OBJECT of it was made;");
        Doc.says(4, "NO, FULL as for number().");
        Doc.says(5, "NO, FULL likewise.");
        Story open = Story.of("shape(NONE); number(0, 0, 9, false, false)");
        Story above = open.then("shape(0)");
        Story made = open.then("object(0)");
        Story beside = open.then("shape(NONE); number(1, 0, 9, false, false); object(1)");
        for (int k = 0; k < MORE.length; k++) {
            open.answers(of(MORE[k], 0) + " = 1");
            above.refuses(of(MORE[k], 0) + " = NO", WRONG[k] + " = BAD");
            made.refuses(of(MORE[k], 0) + " = NO", WRONG[k] + " = BAD");
            above.answers(of(MORE[k], 1) + " = 1");
            above.then("object(0)").answers(of(MORE[k], 1) + " = 1");
            above.then("object(1)").refuses(of(MORE[k], 0) + " = NO", of(MORE[k], 1) + " = NO");
            beside.answers(of(MORE[k], 0) + " = 1");
            beside.refuses(of(MORE[k], 1) + " = NO");
        }
    }

    private static void fieldsFull() {
        Doc.says(3, "FULL: 8.");
        Story seven = Story.of("shape(NONE)").times(7, "number(0, 0, 9, false, false) = #");
        Story eight = seven.then("number(0, 0, 9, false, false) = 7");
        for (int k = 0; k < MORE.length; k++) {
            seven.answers(of(MORE[k], 0) + " = 7");
            eight.refuses(of(MORE[k], 0) + " = FULL", WRONG[k] + " = BAD");
            eight.then("object(0)").refuses(of(MORE[k], 0) + " = NO");
            eight.then("shape(0)").refuses(of(MORE[k], 0) + " = NO", of(MORE[k], 1) + " = FULL");
        }
    }

    private static void linkBad() {
        Doc.says(4, "A LINK to a SHAPE, or a LIST of it, more: its FIELD's number. BAD:");
        Story two = Story.of("shape(NONE); shape(NONE)");
        for (String list : new String[] {"true", "false"}) {
            String rest = ", " + list + ", false, false, false)";
            two.answers("link(0, 0" + rest + " = 0", "link(0, 1" + rest + " = 0", "link(1, 0" + rest + " = 0");
            two.refuses("link(-1, 0" + rest + " = BAD", "link(2, 0" + rest + " = BAD", "link(0, -1" + rest + " = BAD",
                "link(0, 2" + rest + " = BAD", "link(LEAST, 0" + rest + " = BAD", "link(MOST, 0" + rest + " = BAD",
                "link(0, LEAST" + rest + " = BAD", "link(0, MOST" + rest + " = BAD", "link(0, 10" + rest + " = BAD");
        }
    }

    private static void linkListFlags() {
        Doc.says(4, "also a LIST that is REQUIRED, READ ONLY;");
        Story one = Story.of("shape(NONE)");
        one.refuses("link(0, 0, true, true, false, false) = BAD", "link(0, 0, true, false, true, false) = BAD",
            "link(0, 0, true, true, true, false) = BAD", "link(0, 0, true, true, true, true) = BAD");
        one.answers("link(0, 0, true, false, false, false) = 0", "link(0, 0, true, false, false, true) = 0",
            "link(0, 0, false, true, false, false) = 0", "link(0, 0, false, false, true, false) = 0");
    }

    private static void flagsByKind() {
        Doc.says("It may be REQUIRED, READ ONLY (these two of NUMBERS, LINKS), WEAK (of LINKS, LISTS).");
        Story one = Story.of("shape(NONE)");
        one.then("number(0, 0, 9, true, true)").tells("told(0, 0, 3) = 3");
        one.then("link(0, 0, false, true, true, true)").tells("told(0, 0, 3) = 7");
        one.then("link(0, 0, true, false, false, true)").tells("told(0, 0, 3) = 4");
        one.then("number(0, 0, 9, true, true); derived(0, 5, 0, 0)").tells("told(0, 1, 3) = 0");
    }

    private static void kinds() {
        Doc.says("A FIELD is of a KIND: 0 NUMBER, an int from a LEAST to a MOST; 1 LINK to an OBJECT of a SHAPE (one that IS of it);");
        Story.of("shape(NONE); shape(0); number(1, -5, 5, false, false); link(1, 1, false, false, false, true)")
            .then("link(1, 0, true, false, false, true); derived(1, 3, 2, 0); object(1); object(0)")
            .then("set(0, 0, -6) = RANGE; set(0, 0, -5) = 1; set(0, 0, 5) = 1; set(0, 0, 6) = RANGE")
            .then("lead(0, 1, 0) = 1; lead(0, 1, 1) = SHAPE; insert(0, 2, 0, 1) = 1; insert(0, 2, 0, 0) = 1")
            .tells("told(1, 0, 0) = 0", "told(1, 1, 0) = 1", "told(1, 2, 0) = 2", "told(1, 3, 0) = 3", "get(0, 3) = 2");
    }

    /** One field of each kind: see toldElseNone(). */
    private static Story four() {
        return Story.of("shape(NONE); shape(NONE); number(1, -3, 8, false, false); link(1, 0, false, false, false, false)")
            .then("link(1, 1, true, false, false, false); derived(1, 5, 2, 0)");
    }

    private static void toldNone() {
        Doc.says(6, "NONE: it has none such.");
        four().tells("told(1, -1, 0) = NONE", "told(1, 3, 0) = 3", "told(1, 4, 0) = NONE", "told(1, 7, 0) = NONE",
            "told(1, 8, 3) = NONE", "told(1, LEAST, 0) = NONE", "told(1, MOST, 3) = NONE", "told(0, 0, 0) = NONE");
    }

    private static void toldBad() {
        Doc.says(6, "BAD: the SHAPE, what.");
        four().refuses("told(-1, 0, 0) = BAD", "told(2, 0, 0) = BAD", "told(10, 0, 0) = BAD", "told(LEAST, 0, 0) = BAD",
            "told(MOST, 0, 0) = BAD", "told(1, 0, -1) = BAD", "told(1, 0, 4) = BAD", "told(1, 0, LEAST) = BAD",
            "told(1, 0, MOST) = BAD", "told(1, 8, 4) = BAD", "told(2, 8, 0) = BAD");
        four().tells("told(1, 0, 0) = 0", "told(1, 0, 3) = 0");
    }

    private static void toldElseNone() {
        Doc.says(6, "Of a FIELD of a SHAPE: 0 KIND, 1 LEAST, CODE, the SHAPE of a LINK, LIST, 2 MOST, f (else NONE),");
        four().tells("told(1, 0, 0) = 0", "told(1, 0, 1) = -3", "told(1, 0, 2) = 8", "told(1, 1, 0) = 1", "told(1, 1, 1) = 0",
            "told(1, 1, 2) = NONE", "told(1, 2, 0) = 2", "told(1, 2, 1) = 1", "told(1, 2, 2) = NONE", "told(1, 3, 0) = 3",
            "told(1, 3, 1) = 5", "told(1, 3, 2) = 2");
    }

    private static void toldFlags() {
        Doc.says(6, "3 flags: 1 REQUIRED, 2 READ ONLY, 4 WEAK together.");
        for (int flags = 0; flags < 8; flags++) {
            String rest = ((flags & 1) != 0) + ", " + ((flags & 2) != 0) + ", " + ((flags & 4) != 0) + ")";
            Story.of("shape(NONE); link(0, 0, false, " + rest).tells("told(0, 0, 3) = " + flags);
        }
    }
}
