/** The bounds of promises 7 to 12, and those of objects in the terms. */
final class ObjectBounds {
    private ObjectBounds() {
    }

    static void all() {
        objectBad();
        objectFull();
        objectsToSixty();
        objectCantBeUndone();
        missingAtFirst();
        getBad();
        getMissing();
        elementInItsPlace();
        elementNone();
        elementOfNoList();
        elementBad();
        shapeOfBad();
        holdersEachPlace();
        holdersBad();
        holdsNotWeak();
        holdsAtAnyDistance();
        holdsBad();
    }

    /** Field 0 a number, 1 a link, 2 a list, 3 a weak link, 4 a weak list, 5 the length of 2; no object. */
    private static Story shape() {
        return Story.of("shape(NONE); number(0, -9, 9, false, false); link(0, 0, false, false, false, false)")
            .then("link(0, 0, true, false, false, false); link(0, 0, false, false, false, true)")
            .then("link(0, 0, true, false, false, true); derived(0, 3, 2, 0)");
    }

    private static Story made(int objects) {
        return shape().times(objects, "object(0) = #").stirredBy("insert(0, 4, 0, 0)");
    }

    private static void objectBad() {
        Doc.says(7, "An OBJECT of a SHAPE: its number.");
        Doc.says(7, "BAD;");
        Story two = shape().then("shape(NONE)");
        two.answers("object(0) = 0", "object(1) = 0");
        two.refuses("object(-1) = BAD", "object(2) = BAD", "object(10) = BAD", "object(LEAST) = BAD", "object(MOST) = BAD");
    }

    private static void objectFull() {
        Doc.says(7, "FULL: 60.");
        Story most = made(59).then("shape(NONE)");
        most.answers("object(0) = 59", "object(1) = 59");
        most.then("object(0)").refuses("object(0) = FULL", "object(1) = FULL", "object(2) = BAD", "object(-1) = BAD");
    }

    private static void objectsToSixty() {
        Doc.says("OBJECTS 0 .. 59, as they come, are of a SHAPE;");
        made(60).tells("count(1) = 60", "shapeOf(0) = 0", "shapeOf(59) = 0", "get(59, 0) = MISSING").refuses("shapeOf(60) = BAD")
            .answers("set(59, 0, 9) = 1", "insert(59, 2, 0, 0) = 1", "lead(0, 1, 59) = 1", "set(60, 0, 9) = BAD",
            "lead(0, 1, 60) = BAD");
    }

    private static void objectCantBeUndone() {
        Doc.says(7, "(It can't be undone.)");
        made(2).tells("undo() = NO", "redo() = NO", "count(3) = 0");
        made(1).then("set(0, 0, 1); object(0); undo() = 0").tells("count(1) = 2");
        made(1).then("begin(); object(0); abort() = 0").tells("count(1) = 2");
        made(1).then("set(0, 0, 1); undo(); object(0)").tells("count(4) = 1");
    }

    private static void missingAtFirst() {
        Doc.says("a NUMBER, a LINK is MISSING at first, a LIST empty.");
        made(1).tells("get(0, 0) = MISSING", "get(0, 1) = MISSING", "get(0, 2) = 0", "get(0, 3) = MISSING", "get(0, 4) = 0",
            "element(0, 2, 0) = NONE", "element(0, 4, 0) = NONE", "get(0, 5) = 0");
        Story.of("shape(NONE); number(0, 3, 5, true, true); link(0, 0, false, true, true, true); object(0)")
            .tells("get(0, 0) = MISSING", "get(0, 1) = MISSING");
    }

    private static void getBad() {
        Doc.says(8, "BAD: NONE (also a FIELD that it has not).");
        made(2).refuses("get(-1, 0) = NONE", "get(2, 0) = NONE", "get(60, 0) = NONE", "get(LEAST, 0) = NONE", "get(MOST, 0) = NONE",
            "get(0, -1) = NONE", "get(0, 6) = NONE", "get(0, 8) = NONE", "get(1, LEAST) = NONE", "get(1, MOST) = NONE");
        made(2).tells("get(1, 5) = 0");
        shape().then("shape(NONE); object(1)").refuses("get(0, 0) = NONE");
        made(1).then("set(0, 0, -1)").tells("get(0, 0) = -1");
    }

    private static void getMissing() {
        Doc.says(8, "What a FIELD of an OBJECT is: a NUMBER, DERIVED; an OBJECT's number; a LIST's length; MISSING.");
        Story two = made(2).then("set(0, 0, -9); lead(0, 1, 1); insert(0, 2, 0, 1)");
        two.tells("get(0, 0) = -9", "get(0, 1) = 1", "get(0, 2) = 1", "get(0, 5) = 1", "get(1, 0) = MISSING",
            "get(1, 1) = MISSING");
        two.then("unset(0, 0); unset(0, 1); remove(0, 2, 0)").tells("get(0, 0) = MISSING", "get(0, 1) = MISSING", "get(0, 2) = 0");
        two.then("lead(1, 3, 0)").tells("get(1, 3) = 0");
    }

    private static void elementInItsPlace() {
        Doc.says(9, "OBJECT i of a LIST.");
        Story three = made(4).then("insert(0, 2, 0, 3); insert(0, 2, 0, 1); insert(0, 2, 1, 2); insert(0, 4, 0, 0); insert(1, 2, 0, 3)");
        three.tells("element(0, 2, 0) = 1", "element(0, 2, 1) = 2", "element(0, 2, 2) = 3", "element(0, 4, 0) = 0",
            "element(1, 2, 0) = 3");
        three.then("remove(0, 2, 1)").tells("element(0, 2, 0) = 1", "element(0, 2, 1) = 3", "element(0, 2, 2) = NONE");
        three.then("remove(0, 2, 0); undo()").tells("element(0, 2, 0) = 1", "element(0, 2, 2) = 3");
    }

    private static void elementNone() {
        Doc.says(9, "NONE: there is none such,");
        Story full = made(7).times(6, "insert(0, 2, #, #+1)");
        full.tells("element(0, 2, -1) = NONE", "element(0, 2, 0) = 1", "element(0, 2, 5) = 6", "element(0, 2, 6) = NONE",
            "element(0, 2, LEAST) = NONE", "element(0, 2, MOST) = NONE");
        made(2).then("insert(0, 2, 0, 1)").tells("element(0, 2, 0) = 1", "element(0, 2, 1) = NONE");
        made(2).tells("element(0, 2, 0) = NONE");
    }

    private static void elementOfNoList() {
        Doc.says(9, "or it is none.");
        Story one = made(2).then("set(0, 0, 0); lead(0, 1, 1); lead(0, 3, 1); insert(0, 2, 0, 1)");
        one.tells("element(0, 0, 0) = NONE", "element(0, 1, 0) = NONE", "element(0, 3, 0) = NONE", "element(0, 5, 0) = NONE",
            "element(0, 6, 0) = NONE", "element(0, 8, 0) = NONE", "element(0, -1, 0) = NONE", "element(0, LEAST, 0) = NONE",
            "element(0, MOST, 0) = NONE");
    }

    private static void elementBad() {
        Doc.says(9, "BAD: the OBJECT.");
        made(2).refuses("element(-1, 2, 0) = BAD", "element(2, 2, 0) = BAD", "element(60, 2, 0) = BAD",
            "element(LEAST, 2, 0) = BAD",
            "element(MOST, 2, 0) = BAD", "element(2, 8, -1) = BAD");
        made(2).tells("element(1, 2, 0) = NONE");
    }

    private static void shapeOfBad() {
        Doc.says(10, "The SHAPE of an OBJECT. BAD.");
        Story two = shape().then("shape(NONE); object(1); object(0)");
        two.tells("shapeOf(0) = 1", "shapeOf(1) = 0");
        two.refuses("shapeOf(-1) = BAD", "shapeOf(2) = BAD", "shapeOf(60) = BAD", "shapeOf(LEAST) = BAD", "shapeOf(MOST) = BAD");
    }

    private static void holdersEachPlace() {
        Doc.says(11, "How many FIELDS of OBJECTS lead to an OBJECT (of a LIST each place in it).");
        made(2).tells("holders(0) = 0", "holders(1) = 0");
        Story all = made(2).then("lead(0, 1, 1); lead(0, 3, 1)").times(6, "insert(0, 2, #, 1)").times(6, "insert(0, 4, #, 1)");
        all.tells("holders(1) = 14", "holders(0) = 0");
        all.then("lead(1, 3, 1); insert(1, 4, 0, 1)").tells("holders(1) = 16");
        all.then("remove(0, 2, 5); unset(0, 1)").tells("holders(1) = 12");
        made(2).then("set(0, 0, 1)").tells("holders(1) = 0");
        made(2).then("insert(0, 4, 0, 0); insert(0, 4, 0, 1)").tells("holders(1) = 1", "get(0, 4) = 2");
        made(60).times(59, "lead(#+1, 1, 0)").tells("holders(0) = 59");
        Story eight = Story.of("shape(NONE)").times(8, "link(0, 0, false, false, false, true)").then("object(0)");
        eight.then("lead(0, 0, 0)").tells("holders(0) = 1").then("lead(0, 7, 0)").tells("holders(0) = 2");
    }

    private static void holdersBad() {
        Doc.says(11, "BAD.");
        made(2).refuses("holders(-1) = BAD", "holders(2) = BAD", "holders(60) = BAD", "holders(LEAST) = BAD",
            "holders(MOST) = BAD");
    }

    private static void holdsNotWeak() {
        Doc.says("What an OBJECT HOLDS: what its LINKS and LISTS lead to that are not WEAK.");
        made(2).then("lead(0, 1, 1)").tells("holds(0, 1) = 1", "holds(1, 0) = 0");
        made(2).then("insert(0, 2, 0, 1)").tells("holds(0, 1) = 1", "holds(1, 0) = 0");
        made(2).then("lead(0, 3, 1); insert(0, 4, 0, 1)").tells("holds(0, 1) = 0");
        made(3).then("lead(0, 1, 1); lead(1, 3, 2)").tells("holds(0, 2) = 0", "holds(1, 2) = 0");
        made(3).then("lead(0, 3, 1); lead(1, 1, 2)").tells("holds(0, 2) = 0", "holds(1, 2) = 1");
    }

    private static void holdsAtAnyDistance() {
        Doc.says(12, "Whether an OBJECT HOLDS another one, at whatever distance: 1, 0.");
        Story chain = made(60).times(59, "lead(#, 1, #+1)");
        chain.tells("holds(0, 59) = 1", "holds(0, 1) = 1", "holds(58, 59) = 1", "holds(59, 0) = 0", "holds(59, 58) = 0",
            "holds(0, 0) = 0", "holds(59, 59) = 0");
        made(1).then("lead(0, 3, 0); insert(0, 4, 0, 0)").tells("holds(0, 0) = 0");
    }

    private static void holdsBad() {
        Doc.says(12, "BAD.");
        made(2).refuses("holds(-1, 0) = BAD", "holds(0, -1) = BAD", "holds(2, 0) = BAD", "holds(0, 2) = BAD", "holds(60, 0) = BAD",
            "holds(0, 60) = BAD", "holds(LEAST, 0) = BAD", "holds(0, LEAST) = BAD", "holds(MOST, 0) = BAD", "holds(0, MOST) = BAD");
    }
}
