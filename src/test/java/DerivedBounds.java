/** The bounds of promise 5, and those of derived fields in the terms. */
final class DerivedBounds {
    private DerivedBounds() {
    }

    static void all() {
        followsItsOwn();
        codeBad();
        shapeBad();
        ofTwoBad();
        lengthBad();
        totalBad();
        thereBad();
        codeEdges();
        sumWraps();
        shareIsCut();
        missingFollows();
        totalLeavesOut();
        thereIsNever();
        shareByZero();
        leastInt();
        sumOfTotals();
    }

    private static void followsItsOwn() {
        Doc.says("3 DERIVED, which follows from other FIELDS of the same SHAPE.");
        Story both = Story.of("shape(NONE); number(0, 0, 9, false, false); shape(0); number(1, 0, 9, false, false) = 1")
            .then("link(1, 0, true, false, false, false) = 2; derived(1, 0, 0, 1) = 3; derived(1, 4, 2, 0) = 4; derived(1, 3, 2, 0) = 5")
            .then("derived(1, 5, 2, 0) = 6; derived(1, 1, 3, 5) = 7; object(1) = 0; object(1) = 1; object(0) = 2");
        Story filled = both.then("set(0, 0, 2); set(0, 1, 3); set(1, 0, 7); set(1, 1, 1); insert(0, 2, 0, 2)");
        filled.tells("get(0, 3) = 5", "get(0, 4) = 0", "get(0, 5) = 1", "get(0, 6) = 1", "get(0, 7) = 5");
        filled.tells("get(1, 3) = 8", "get(1, 4) = 0", "get(1, 5) = 0", "get(1, 6) = 0", "get(1, 7) = 8");
        Story more = filled.then("set(0, 0, 9); insert(0, 2, 0, 1); set(2, 0, 4)");
        more.tells("get(0, 3) = 12", "get(0, 4) = 11", "get(0, 5) = 2", "get(0, 6) = 1", "get(0, 7) = 12");
        more.tells("get(1, 3) = 8", "get(1, 4) = 0", "get(1, 5) = 0", "get(1, 6) = 0", "get(1, 7) = 8");
        more.then("undo(); undo(); undo()").tells("get(0, 3) = 5", "get(0, 4) = 0", "get(0, 5) = 1", "get(0, 7) = 5");
        more.then("remove(0, 2, 0); remove(0, 2, 0)").tells("get(0, 4) = 0", "get(0, 5) = 0", "get(0, 6) = 0", "get(0, 7) = 12");
    }

    private static void codeBad() {
        Doc.says(5, "A DERIVED FIELD more: its number. BAD: also CODE (0 .. 5),");
        Story one = Story.of("shape(NONE); number(0, 0, 9, false, false); link(0, 0, true, false, false, false)");
        one.refuses("derived(0, -1, 0, 0) = BAD", "derived(0, 6, 0, 0) = BAD", "derived(0, LEAST, 0, 0) = BAD",
            "derived(0, MOST, 0, 0) = BAD", "derived(0, -1, 1, 0) = BAD", "derived(0, 6, 1, 0) = BAD");
        one.answers("derived(0, 0, 0, 0) = 2", "derived(0, 5, 0, 0) = 2");
    }

    private static void shapeBad() {
        Doc.says(5, "BAD:");
        Story one = Story.of("shape(NONE); number(0, 0, 9, false, false)");
        one.refuses("derived(-1, 0, 0, 0) = BAD", "derived(1, 0, 0, 0) = BAD", "derived(LEAST, 0, 0, 0) = BAD",
            "derived(MOST, 0, 0, 0) = BAD");
    }

    /** Field 0 a number, 1 a link, 2 a list, 3 a derived one; the next is 4. */
    private static Story kinds() {
        return Story.of("shape(NONE); number(0, 0, 9, false, false); link(0, 0, false, false, false, true)")
            .then("link(0, 0, true, false, false, true); derived(0, 3, 2, 0) = 3");
    }

    private static void ofTwoBad() {
        Doc.says(5, "f, g that are not as told;");
        Doc.says("f, of all but 4 g, too (where it is looked at: 0, 1, 2), are numbers below the DERIVED FIELD's own, NUMBERS or DERIVED for 0 to 2;");
        for (int code = 0; code < 3; code++) {
            String call = "derived(0, " + code + ", ";
            kinds().refuses(call + "-1, 0) = BAD", call + "0, -1) = BAD", call + "4, 0) = BAD", call + "0, 4) = BAD",
                call + "1, 0) = BAD", call + "0, 1) = BAD", call + "2, 0) = BAD", call + "0, 2) = BAD", call + "8, 0) = BAD",
                call + "0, 8) = BAD", call + "LEAST, 0) = BAD", call + "0, MOST) = BAD", call + "MOST, 0) = BAD");
            kinds().answers(call + "0, 0) = 4", call + "3, 0) = 4", call + "0, 3) = 4", call + "3, 3) = 4");
            Story.of("shape(NONE)").refuses(call + "0, 0) = BAD");
        }
    }

    private static void lengthBad() {
        Doc.says("3 LENGTH of LIST f;");
        kinds().refuses("derived(0, 3, 0, 0) = BAD", "derived(0, 3, 1, 0) = BAD", "derived(0, 3, 3, 0) = BAD",
            "derived(0, 3, 4, 0) = BAD", "derived(0, 3, -1, 0) = BAD", "derived(0, 3, MOST, 0) = BAD");
        kinds().answers("derived(0, 3, 2, -1) = 4", "derived(0, 3, 2, 8) = 4", "derived(0, 3, 2, LEAST) = 4");
        Story.of("shape(NONE); link(0, 0, true, false, false, true); derived(0, 3, 0, 0); object(0)")
            .then("get(0, 1) = 0").times(6, "insert(0, 0, 0, 0)").answers("get(0, 1) = 6");
    }

    private static void totalBad() {
        Doc.says("of 4 g is a FIELD of the SHAPE that the LIST is of, a NUMBER.");
        kinds().refuses("derived(0, 4, 0, 0) = BAD", "derived(0, 4, 1, 0) = BAD", "derived(0, 4, 3, 0) = BAD",
            "derived(0, 4, 4, 0) = BAD", "derived(0, 4, -1, 0) = BAD", "derived(0, 4, 2, -1) = BAD", "derived(0, 4, 2, 1) = BAD",
            "derived(0, 4, 2, 2) = BAD", "derived(0, 4, 2, 3) = BAD", "derived(0, 4, 2, 4) = BAD", "derived(0, 4, 2, MOST) = BAD",
            "derived(0, 4, 2, LEAST) = BAD");
        kinds().answers("derived(0, 4, 2, 0) = 4");
        Story other = Story.of("shape(NONE); shape(NONE)").times(3, "number(1, 0, 9, false, false)")
            .then("link(0, 1, true, false, false, false)");
        other.answers("derived(0, 4, 0, 0) = 1", "derived(0, 4, 0, 2) = 1");
        other.refuses("derived(0, 4, 0, 3) = BAD");
        Story below = Story.of("shape(NONE); number(0, 0, 9, false, false); shape(0); number(1, 0, 9, false, false)")
            .then("shape(NONE); link(2, 0, true, false, false, false); link(2, 1, true, false, false, false)");
        below.answers("derived(2, 4, 0, 0) = 2", "derived(2, 4, 1, 1) = 2");
        below.refuses("derived(2, 4, 0, 1) = BAD");
    }

    private static void thereBad() {
        Doc.says("5 THERE, whether FIELD f has something (1, 0; a LIST, if it is not empty).");
        kinds().refuses("derived(0, 5, -1, 0) = BAD", "derived(0, 5, 4, 0) = BAD", "derived(0, 5, 8, 0) = BAD",
            "derived(0, 5, LEAST, 0) = BAD", "derived(0, 5, MOST, 0) = BAD");
        kinds().answers("derived(0, 5, 0, -1) = 4", "derived(0, 5, 1, 8) = 4", "derived(0, 5, 2, LEAST) = 4",
            "derived(0, 5, 3, MOST) = 4");
        Story made = kinds().times(4, "derived(0, 5, #, 0)").then("object(0)");
        made.tells("get(0, 4) = 0", "get(0, 5) = 0", "get(0, 6) = 0", "get(0, 7) = 1");
        made.then("set(0, 0, 0)").tells("get(0, 4) = 1", "get(0, 5) = 0");
        made.then("lead(0, 1, 0)").tells("get(0, 4) = 0", "get(0, 5) = 1");
        made.then("insert(0, 2, 0, 0)").tells("get(0, 6) = 1").then("remove(0, 2, 0)").tells("get(0, 6) = 0");
    }

    /** Two numbers as wide as can be, their sum 2, most 3 and share 4, of one object. */
    private static Story two() {
        return Story.of("shape(NONE); number(0, -2147483647, MOST, false, false); number(0, -2147483647, MOST, false, false)")
            .then("derived(0, 0, 0, 1) = 2; derived(0, 1, 0, 1) = 3; derived(0, 2, 0, 1) = 4; object(0)");
    }

    private static Story two(int a, int b) {
        return two().then("set(0, 0, " + a + ")", "set(0, 1, " + b + ")");
    }

    private static void codeEdges() {
        Doc.says("1 MOST of NUMBERS f, g;");
        two(2147483647, -2147483647).tells("get(0, 3) = MOST");
        two(-2147483647, 2147483647).tells("get(0, 3) = MOST");
        two(-2147483647, -2147483647).tells("get(0, 3) = -2147483647");
        two(-1, 0).tells("get(0, 3) = 0");
    }

    private static void sumWraps() {
        Doc.says("DERIVED by CODE from FIELDS f, g: 0 SUM of NUMBERS f, g (it wraps);");
        two(2147483647, 0).tells("get(0, 2) = MOST");
        two(2147483647, 2).tells("get(0, 2) = -2147483647");
        two(2147483647, 2147483647).tells("get(0, 2) = -2");
        two(-2147483647, -2).tells("get(0, 2) = MOST");
        two(-2147483647, -2147483647).tells("get(0, 2) = 2");
        two(-2147483647, 0).tells("get(0, 2) = -2147483647");
    }

    private static void shareIsCut() {
        Doc.says("2 SHARE of NUMBER f by NUMBER g, cut;");
        two(7, 2).tells("get(0, 4) = 3");
        two(-7, 2).tells("get(0, 4) = -3");
        two(7, -2).tells("get(0, 4) = -3");
        two(-7, -2).tells("get(0, 4) = 3");
        two(-1, 2).tells("get(0, 4) = 0");
        two(-2147483647, -1).tells("get(0, 4) = MOST");
        two(2147483647, -1).tells("get(0, 4) = -2147483647");
        two(0, 5).tells("get(0, 4) = 0");
    }

    private static void missingFollows() {
        Doc.says("It is MISSING if what it follows from is (");
        two().tells("get(0, 2) = MISSING", "get(0, 3) = MISSING", "get(0, 4) = MISSING");
        two().then("set(0, 0, 7)").tells("get(0, 2) = MISSING", "get(0, 3) = MISSING", "get(0, 4) = MISSING");
        two().then("set(0, 1, 7)").tells("get(0, 2) = MISSING", "get(0, 3) = MISSING", "get(0, 4) = MISSING");
        two(7, 7).then("unset(0, 1)").tells("get(0, 2) = MISSING", "get(0, 3) = MISSING", "get(0, 4) = MISSING");
        Story chain = Story.of("shape(NONE); number(0, 0, 9, false, false)").times(7, "derived(0, 0, #, 0) = #+1")
            .then("object(0)");
        chain.tells("get(0, 7) = MISSING").then("set(0, 0, 2)").tells("get(0, 7) = 16");
    }

    private static Story totals() {
        return Story.of("shape(NONE); number(0, -2147483647, MOST, false, false); link(0, 0, true, false, false, true)")
            .then("derived(0, 4, 1, 0) = 2; object(0); object(0); object(0)");
    }

    private static void totalLeavesOut() {
        Doc.says("4 TOTAL, of LIST f, of what its OBJECTS have in FIELD g;");
        Doc.says("of TOTAL those OBJECTS are left out;");
        totals().tells("get(0, 2) = 0");
        Story full = totals().times(3, "insert(0, 1, 0, 1)").times(3, "insert(0, 1, 0, 2)");
        full.tells("get(0, 2) = 0");
        full.then("set(1, 0, 5)").tells("get(0, 2) = 15");
        full.then("set(1, 0, 5); set(2, 0, -4)").tells("get(0, 2) = 3");
        full.then("set(1, 0, 5); set(0, 0, 9)").tells("get(0, 2) = 15");
    }

    private static void thereIsNever() {
        Doc.says("of THERE never),");
        Story made = Story.of("shape(NONE); number(0, 0, 9, false, false); derived(0, 2, 0, 0); derived(0, 5, 1, 0)")
            .then("derived(0, 5, 2, 0); object(0)");
        made.tells("get(0, 1) = MISSING", "get(0, 2) = 0", "get(0, 3) = 1");
        made.then("set(0, 0, 0)").tells("get(0, 1) = MISSING", "get(0, 2) = 0");
        made.then("set(0, 0, 1)").tells("get(0, 1) = 1", "get(0, 2) = 1");
    }

    private static void shareByZero() {
        Doc.says("of a SHARE by 0,");
        two(7, 0).tells("get(0, 4) = MISSING", "get(0, 2) = 7", "get(0, 3) = 7");
        two(0, 0).tells("get(0, 4) = MISSING");
        two(-7, 0).tells("get(0, 4) = MISSING");
        two(7, 1).tells("get(0, 4) = 7");
        two(7, -1).tells("get(0, 4) = -7");
        Story byDerived = Story.of("shape(NONE); number(0, -9, 9, false, false); derived(0, 0, 0, 0); derived(0, 2, 0, 1); object(0)");
        byDerived.then("set(0, 0, 0)").tells("get(0, 2) = MISSING");
        byDerived.then("set(0, 0, 9)").tells("get(0, 2) = 0");
    }

    private static void leastInt() {
        Doc.says("or if it comes to the least int.");
        two(2147483647, 1).tells("get(0, 2) = MISSING");
        two(-2147483647, -1).tells("get(0, 2) = MISSING");
        Story on = Story.of("shape(NONE); number(0, -2147483647, MOST, false, false); derived(0, 0, 0, 0); derived(0, 0, 1, 0)")
            .then("derived(0, 1, 1, 0); derived(0, 5, 1, 0); object(0)");
        on.then("set(0, 0, 1073741824)").tells("get(0, 1) = MISSING", "get(0, 2) = MISSING", "get(0, 3) = MISSING",
            "get(0, 4) = 0");
        on.then("set(0, 0, 1073741825)").tells("get(0, 1) = -2147483646", "get(0, 4) = 1");
        Story twice = totals().then("insert(0, 1, 0, 1); insert(0, 1, 0, 1)");
        twice.then("set(1, 0, 1073741824)").tells("get(0, 2) = MISSING");
        twice.then("set(1, 0, -1073741824)").tells("get(0, 2) = MISSING");
        twice.then("set(1, 0, 1073741825)").tells("get(0, 2) = -2147483646");
        twice.then("set(1, 0, 1073741823)").tells("get(0, 2) = 2147483646");
    }

    /** A total that passes the least int on its way is what it comes to in the end. */
    private static void sumOfTotals() {
        Doc.says("4 TOTAL, of LIST f, of what its OBJECTS have in FIELD g;");
        totals().then("set(1, 0, MOST); set(2, 0, 1); insert(0, 1, 0, 2); insert(0, 1, 0, 1); insert(0, 1, 2, 2)")
            .tells("get(0, 2) = -2147483647");
    }
}
