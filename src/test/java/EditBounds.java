/** The bounds of promises 13 to 18, and the order in which edits are refused. */
final class EditBounds {
    private EditBounds() {
    }

    static void all() {
        ofOneField();
        editsBad();
        otherBad();
        kind();
        readOnly();
        rangeOfNumbers();
        rangeOfIndexes();
        rangeOfSeventh();
        shape();
        loop();
        required();
        unsetWhatIsMissing();
        veto();
        orderOfSet();
        orderOfLead();
        orderOfUnset();
        orderOfInsert();
        orderOfSort();
        refusedFirst();
        sortEdges();
        sortRange();
    }

    /**
     * Shape 0: number 0, read only number 1, required number 2, link 3, read only link 4, list 5, weak list 6, derived 7.
     * Shape 1 stands beside it, shape 2 below it. Objects 0, 1, 2 of shape 0, 3 of shape 1, 4 of shape 2.
     */
    private static Story made() {
        return Story.of("shape(NONE); number(0, -5, 5, false, false); number(0, -5, 5, false, true); number(0, -5, 5, true, false)")
            .then("link(0, 0, false, false, false, false); link(0, 0, false, false, true, false)")
            .then("link(0, 0, true, false, false, false); link(0, 0, true, false, false, true); derived(0, 3, 5, 0)")
            .then("shape(NONE) = 1; shape(0) = 2; object(0); object(0); object(0); object(1); object(2)")
            .stirredBy("insert(2, 6, 0, 2)");
    }

    private static final String[] EDITS = {"set(@, 0)", "unset(@)", "lead(@, 1)", "insert(@, 0, 1)", "remove(@, 0)",
        "sort(@, 0, false)"};

    private static String of(String edit, String place) {
        return edit.replace("@", place);
    }

    private static void ofOneField() {
        Doc.says("======== 3 EDITS of an OBJECT's FIELD.");
        Story ready = made().then("set(0, 0, 1); set(1, 0, 2); set(4, 0, 3); set(0, 2, 4)");
        ready.then("set(0, 0, 5)").tells("get(0, 0) = 5", "get(1, 0) = 2", "get(4, 0) = 3", "get(0, 1) = MISSING", "get(0, 2) = 4");
        ready.then("unset(4, 0)").tells("get(0, 0) = 1", "get(1, 0) = 2", "get(4, 0) = MISSING", "get(0, 2) = 4");
        Story led = ready.then("lead(0, 3, 1); lead(2, 3, 4); insert(0, 5, 0, 1); insert(0, 6, 0, 2); insert(2, 5, 0, 1)");
        led.then("lead(0, 3, 2)").tells("get(0, 3) = 2", "get(2, 3) = 4", "get(0, 4) = MISSING", "element(0, 5, 0) = 1");
        led.then("remove(0, 5, 0)").tells("get(0, 5) = 0", "get(0, 6) = 1", "element(2, 5, 0) = 1", "get(0, 3) = 1");
        led.then("insert(2, 5, 0, 4)").tells("element(2, 5, 0) = 4", "element(0, 5, 0) = 1", "get(0, 5) = 1", "get(2, 6) = 0");
    }

    private static void editsBad() {
        Doc.says("---- edits: 1, or why it is REFUSED; BAD: an OBJECT, a FIELD that it has not.");
        Story ready = made().then("insert(0, 5, 0, 1)");
        int[] fields = {0, 3, 3, 5, 5, 5};
        for (int k = 0; k < EDITS.length; k++) {
            String edit = EDITS[k];
            ready.answers(of(edit, "0, " + fields[k]) + " = 1");
            for (String object : new String[] {"-1", "5", "60", "LEAST", "MOST"}) {
                ready.refuses(of(edit, object + ", " + fields[k]) + " = BAD");
            }
            for (String field : new String[] {"-1", "8", "LEAST", "MOST"}) ready.refuses(of(edit, "0, " + field) + " = BAD");
            ready.refuses(of(edit, "3, 0") + " = BAD");
        }
    }

    private static void otherBad() {
        Doc.says(14, "BAD: also that one.");
        Doc.says(16, "BAD: also that OBJECT.");
        for (String other : new String[] {"-1", "5", "60", "LEAST", "MOST"}) {
            made().refuses("lead(0, 3, " + other + ") = BAD", "insert(0, 5, 0, " + other + ") = BAD");
            made().refuses("lead(0, 0, " + other + ") = BAD", "insert(0, 0, 0, " + other + ") = BAD",
                "insert(0, 5, 9, " + other + ") = BAD");
        }
        made().answers("lead(0, 3, 4) = 1", "insert(0, 5, 0, 4) = 1");
        made().then("lead(0, 4, 1)").refuses("lead(0, 4, 5) = BAD");
    }

    private static void kind() {
        Doc.says("-6 KIND (it is none for this);");
        Doc.says(13, "A NUMBER becomes v.");
        Doc.says(14, "A LINK becomes one to another OBJECT.");
        Doc.says(17, "Place i goes from a LIST.");
        made().refuses("set(0, 3, 0) = KIND", "set(0, 4, 0) = KIND", "set(0, 5, 0) = KIND", "set(0, 6, 0) = KIND",
            "set(0, 7, 0) = KIND");
        made().refuses("lead(0, 0, 1) = KIND", "lead(0, 5, 1) = KIND", "lead(0, 6, 1) = KIND", "lead(0, 7, 1) = KIND");
        made().refuses("unset(0, 5) = KIND", "unset(0, 6) = KIND", "unset(0, 7) = KIND");
        for (int field : new int[] {0, 3, 7}) {
            made().refuses("insert(0, " + field + ", 0, 1) = KIND", "remove(0, " + field + ", 0) = KIND",
                "sort(0, " + field + ", 0, true) = KIND");
        }
        made().then("lead(0, 3, 1)").refuses("insert(0, 3, 0, 1) = KIND", "remove(0, 3, 0) = KIND", "sort(0, 3, 0, true) = KIND");
    }

    private static void readOnly() {
        Doc.says("-7 READ ONLY (and it is not MISSING);");
        made().answers("set(0, 1, 5) = 1", "lead(0, 4, 1) = 1");
        Story both = made().then("set(0, 1, 0); lead(0, 4, 1)");
        both.refuses("set(0, 1, 1) = READ_ONLY", "set(0, 1, 0) = READ_ONLY", "lead(0, 4, 2) = READ_ONLY",
            "lead(0, 4, 1) = READ_ONLY");
        both.answers("set(1, 1, 1) = 1", "lead(1, 4, 2) = 1", "set(0, 0, 1) = 1", "lead(0, 3, 1) = 1");
        both.then("undo(); undo()").answers("set(0, 1, 1) = 1", "lead(0, 4, 2) = 1");
        Story toFirst = made().then("lead(1, 4, 0)");
        toFirst.refuses("lead(1, 4, 2) = READ_ONLY");
        both.then("begin(); set(2, 1, 1); abort()").answers("set(2, 1, 4) = 1");
    }

    private static void rangeOfNumbers() {
        Doc.says("-8 RANGE (a NUMBER,");
        made().refuses("set(0, 0, -6) = RANGE", "set(0, 0, 6) = RANGE", "set(0, 0, LEAST) = RANGE", "set(0, 0, MOST) = RANGE",
            "set(0, 1, 6) = RANGE", "set(0, 2, -6) = RANGE");
        made().then("set(0, 0, -5) = 1").tells("get(0, 0) = -5");
        made().then("set(0, 0, 5) = 1").tells("get(0, 0) = 5");
        Story wide = Story.of("shape(NONE); number(0, -2147483647, MOST, false, false); number(0, MOST, MOST, false, false); object(0)");
        wide.refuses("set(0, 0, LEAST) = RANGE", "set(0, 0, MISSING) = RANGE", "set(0, 1, 2147483646) = RANGE",
            "set(0, 1, LEAST) = RANGE");
        wide.then("set(0, 0, -2147483647) = 1").tells("get(0, 0) = -2147483647");
        wide.then("set(0, 0, MOST) = 1; set(0, 1, MOST) = 1").tells("get(0, 0) = MOST", "get(0, 1) = MOST");
        Story narrow = Story.of("shape(NONE); number(0, -2147483647, -2147483647, false, false); object(0)");
        narrow.refuses("set(0, 0, -2147483646) = RANGE", "set(0, 0, LEAST) = RANGE").answers("set(0, 0, -2147483647) = 1");
    }

    private static void rangeOfIndexes() {
        Doc.says("an index,");
        Doc.says(16, "An OBJECT comes into a LIST ahead of place i (0 .. its length).");
        made().refuses("insert(0, 5, -1, 1) = RANGE", "insert(0, 5, 1, 1) = RANGE", "insert(0, 5, LEAST, 1) = RANGE",
            "insert(0, 5, MOST, 1) = RANGE", "remove(0, 5, 0) = RANGE", "remove(0, 5, -1) = RANGE");
        made().then("insert(0, 5, 0, 1) = 1").tells("element(0, 5, 0) = 1");
        Story two = made().then("insert(0, 5, 0, 1); insert(0, 5, 1, 2)");
        two.refuses("insert(0, 5, -1, 4) = RANGE", "insert(0, 5, 3, 4) = RANGE", "insert(0, 5, MOST, 4) = RANGE",
            "remove(0, 5, -1) = RANGE", "remove(0, 5, 2) = RANGE", "remove(0, 5, LEAST) = RANGE", "remove(0, 5, MOST) = RANGE");
        two.then("insert(0, 5, 0, 4) = 1").tells("element(0, 5, 0) = 4", "element(0, 5, 1) = 1", "element(0, 5, 2) = 2");
        two.then("insert(0, 5, 1, 4) = 1").tells("element(0, 5, 0) = 1", "element(0, 5, 1) = 4", "element(0, 5, 2) = 2");
        two.then("insert(0, 5, 2, 4) = 1").tells("element(0, 5, 0) = 1", "element(0, 5, 1) = 2", "element(0, 5, 2) = 4");
        two.then("remove(0, 5, 0) = 1").tells("element(0, 5, 0) = 2", "get(0, 5) = 1");
        two.then("remove(0, 5, 1) = 1").tells("element(0, 5, 0) = 1", "get(0, 5) = 1");
        two.then("remove(0, 5, 1); remove(0, 5, 0)").tells("get(0, 5) = 0").refuses("remove(0, 5, 0) = RANGE");
    }

    private static void rangeOfSeventh() {
        Doc.says("2 LIST of such, 6 at most;");
        Doc.says("a 7th in a LIST);");
        Story five = made().times(5, "insert(0, 5, #, 1)").times(5, "insert(0, 6, #, 0)");
        five.then("insert(0, 5, 5, 2) = 1; insert(0, 6, 0, 2) = 1")
            .tells("get(0, 5) = 6", "element(0, 5, 5) = 2", "element(0, 6, 0) = 2")
            .refuses("insert(0, 5, 0, 1) = RANGE", "insert(0, 5, 5, 1) = RANGE", "insert(0, 5, 6, 1) = RANGE",
            "insert(0, 5, 7, 1) = RANGE",
                "insert(0, 6, 0, 1) = RANGE", "insert(0, 6, 6, 1) = RANGE", "insert(0, 5, -1, 1) = RANGE")
            .then("remove(0, 5, 5)").answers("insert(0, 5, 0, 2) = 1");
    }

    private static void shape() {
        Doc.says("-9 SHAPE (an OBJECT that IS not of it);");
        made().refuses("lead(0, 3, 3) = SHAPE", "insert(0, 5, 0, 3) = SHAPE", "insert(0, 6, 0, 3) = SHAPE",
            "lead(0, 4, 3) = SHAPE");
        made().answers("lead(0, 3, 4) = 1", "insert(0, 5, 0, 4) = 1", "lead(0, 3, 1) = 1");
        Story down = Story.of("shape(NONE); shape(0); shape(1); link(2, 1, false, false, false, true); object(0); object(1); object(2)");
        down.refuses("lead(2, 0, 0) = SHAPE").answers("lead(2, 0, 1) = 1", "lead(2, 0, 2) = 1");
    }

    private static void loop() {
        Doc.says("-10 LOOP (some OBJECT would HOLD itself, at whatever distance);");
        made().refuses("lead(0, 3, 0) = LOOP", "insert(0, 5, 0, 0) = LOOP", "lead(0, 4, 0) = LOOP")
            .answers("insert(0, 6, 0, 0) = 1");
        Story two = made().then("lead(0, 3, 1)");
        two.refuses("lead(1, 3, 0) = LOOP", "insert(1, 5, 0, 0) = LOOP")
            .answers("insert(1, 6, 0, 0) = 1", "lead(0, 3, 1) = 1", "insert(0, 5, 0, 1) = 1");
        two.then("unset(0, 3)").answers("lead(1, 3, 0) = 1");
        two.then("undo()").answers("lead(1, 3, 0) = 1").then("lead(1, 3, 0)").refuses("lead(0, 3, 1) = LOOP");
        made().then("insert(0, 6, 0, 1)").answers("lead(1, 3, 0) = 1");
        made().then("insert(0, 5, 0, 1); insert(1, 5, 0, 2)")
            .refuses("lead(2, 3, 0) = LOOP", "lead(2, 3, 1) = LOOP", "insert(2, 5, 0, 0) = LOOP");
        Story chain = Story.of("shape(NONE); link(0, 0, false, false, false, false); link(0, 0, true, false, false, true)")
            .times(60, "object(0)").times(59, "lead(#, 0, #+1)");
        chain.refuses("lead(59, 0, 0) = LOOP", "lead(59, 0, 58) = LOOP", "lead(59, 0, 59) = LOOP")
            .answers("insert(59, 1, 0, 0) = 1");
        chain.then("unset(30, 0)").answers("lead(59, 0, 0) = 1", "lead(59, 0, 30) = 1").refuses("lead(59, 0, 31) = LOOP");
    }

    private static void required() {
        Doc.says("-11 REQUIRED (it would be MISSING again);");
        made().answers("set(0, 2, 5) = 1");
        made().then("set(0, 2, 5)").refuses("unset(0, 2) = REQUIRED").answers("set(0, 2, -5) = 1", "undo() = 0");
        made().then("set(0, 0, 5)").answers("unset(0, 0) = 1");
        Story link = Story.of("shape(NONE); link(0, 0, false, true, false, true); object(0); lead(0, 0, 0)");
        link.refuses("unset(0, 0) = REQUIRED").answers("lead(0, 0, 0) = 1");
    }

    private static void unsetWhatIsMissing() {
        Doc.says(15, "A NUMBER or a LINK becomes MISSING (REQUIRED, READ ONLY: also if it is so already).");
        made().refuses("unset(0, 1) = READ_ONLY", "unset(0, 2) = REQUIRED", "unset(0, 4) = READ_ONLY");
        made().then("set(0, 1, 1); lead(0, 4, 1)").refuses("unset(0, 1) = READ_ONLY", "unset(0, 4) = READ_ONLY");
        made().then("unset(0, 0) = 1").tells("get(0, 0) = MISSING", "count(3) = 1");
        made().then("unset(0, 3) = 1").tells("get(0, 3) = MISSING", "count(3) = 1");
        made().then("set(0, 0, 0); unset(0, 0) = 1").tells("get(0, 0) = MISSING");
        made().then("lead(1, 3, 0); unset(1, 3) = 1").tells("get(1, 3) = MISSING");
        Story link = Story.of("shape(NONE); link(0, 0, false, true, false, true); link(0, 0, false, true, true, true); object(0)");
        link.refuses("unset(0, 0) = REQUIRED", "unset(0, 1) = READ_ONLY");
    }

    private static void veto() {
        Doc.says("-12 VETO.");
        Doc.says("a WATCH may VETO, of a NUMBER, values above a LIMIT.");
        Story three = made().then("watch(0, 0, true, 3)");
        three.refuses("set(0, 0, 4) = VETO", "set(0, 0, 5) = VETO", "set(4, 0, 4) = VETO");
        three.answers("set(0, 0, 3) = 1", "set(0, 0, -5) = 1", "set(0, 2, 4) = 1", "unset(0, 0) = 1");
        three.then("watch(0, 0, true, 1)").refuses("set(0, 0, 2) = VETO").answers("set(0, 0, 1) = 1");
        made().then("watch(0, 0, true, 1); watch(0, 0, true, 3)").refuses("set(0, 0, 2) = VETO");
        made().then("watch(0, 0, false, 3)").answers("set(0, 0, 4) = 1", "set(0, 0, 5) = 1");
        made().then("watch(0, 0, true, LEAST)").refuses("set(0, 0, -5) = VETO", "set(0, 0, 5) = VETO").answers("unset(0, 0) = 1");
        made().then("watch(0, 0, true, MOST)").answers("set(0, 0, 5) = 1");
        made().then("watch(2, 0, true, 3)").refuses("set(4, 0, 4) = VETO").answers("set(4, 0, 3) = 1", "set(0, 0, 4) = 1");
        Story widest = Story.of("shape(NONE); number(0, -2147483647, MOST, false, false); object(0); watch(0, 0, true, 2147483646)");
        widest.refuses("set(0, 0, MOST) = VETO").answers("set(0, 0, 2147483646) = 1");
        Story lowest = Story.of("shape(NONE); number(0, -2147483647, MOST, false, false); object(0); watch(0, 0, true, -2147483647)");
        lowest.refuses("set(0, 0, -2147483646) = VETO").answers("set(0, 0, -2147483647) = 1");
    }

    private static void orderOfSet() {
        Doc.says("An EDIT is REFUSED by the first of:");
        Story watched = made().then("watch(0, 1, true, -5); watch(0, 0, true, -5)");
        watched.refuses("set(0, 8, 99) = BAD", "set(0, 3, 99) = KIND", "set(0, 1, 6) = RANGE", "set(0, 1, 5) = VETO",
            "set(0, 0, 6) = RANGE");
        Story taken = watched.then("set(0, 1, -5); lead(0, 4, 1)");
        taken.refuses("set(0, 1, 6) = READ_ONLY", "set(0, 1, 5) = READ_ONLY", "set(0, 1, -5) = READ_ONLY", "set(0, 4, 99) = KIND");
    }

    private static void orderOfLead() {
        Story ready = made().then("lead(0, 4, 1); lead(0, 3, 1)");
        ready.refuses("lead(0, 4, 3) = READ_ONLY", "lead(0, 4, 0) = READ_ONLY", "lead(0, 0, 3) = KIND", "lead(0, 5, 0) = KIND");
        Story other = Story.of("shape(NONE); shape(NONE); link(0, 1, false, false, false, false); object(0)");
        other.refuses("lead(0, 0, 0) = SHAPE");
    }

    private static void orderOfUnset() {
        Story both = Story.of("shape(NONE); number(0, 0, 9, true, true); link(0, 0, false, true, true, true); object(0)");
        both.refuses("unset(0, 0) = READ_ONLY", "unset(0, 1) = READ_ONLY");
        both.then("set(0, 0, 1); lead(0, 1, 0)").refuses("unset(0, 0) = READ_ONLY", "unset(0, 1) = READ_ONLY");
    }

    private static void orderOfInsert() {
        made().refuses("insert(0, 0, 9, 3) = KIND", "insert(0, 5, 1, 3) = RANGE", "insert(0, 5, 1, 0) = RANGE",
            "insert(0, 5, -1, 0) = RANGE");
        made().times(6, "insert(0, 5, 0, 1)").refuses("insert(0, 5, 0, 3) = RANGE", "insert(0, 5, 0, 0) = RANGE");
        Story other = Story.of("shape(NONE); shape(NONE); link(0, 1, true, false, false, false); object(0)");
        other.refuses("insert(0, 0, 0, 0) = SHAPE");
    }

    private static void orderOfSort() {
        made().refuses("sort(0, 8, 8, false) = BAD", "sort(0, 0, 8, false) = KIND", "sort(0, 7, -1, false) = KIND",
            "remove(0, 0, 9) = KIND");
    }

    private static void refusedFirst() {
        Doc.says("Refused, changing nothing, the first of: BAD -2 a number is not as told; NO -3 as told; FULL -4.");
        Story full = made().times(55, "object(0)").times(7, "shape(NONE)").times(16, "path()").times(5, "step(0, 2, 0)")
            .times(10, "watch(0, 0, false, 0)").then("set(0, 0, 1); set(0, 0, 2)");
        full.refuses("shape(10) = BAD", "shape(NONE) = FULL", "object(10) = BAD", "object(0) = FULL", "copy(60) = BAD",
            "copy(0) = FULL", "path() = FULL", "step(16, 0, 0) = BAD", "step(0, 5, 0) = BAD", "step(0, 0, 8) = BAD",
            "step(0, 0, 0) = FULL", "watch(0, 7, false, 0) = BAD", "watch(0, 0, false, 0) = FULL", "watch(0, 0, true, 0) = FULL");
        full.refuses("number(0, 1, 0, false, false) = BAD", "number(0, 0, 1, false, false) = NO",
            "link(0, 10, false, false, false, false) = BAD", "link(0, 0, true, true, false, false) = BAD",
            "link(0, 0, false, false, false, false) = NO", "derived(0, 6, 0, 0) = BAD", "derived(0, 5, 8, 0) = BAD",
            "derived(0, 5, 0, 0) = NO", "told(10, 0, 0) = BAD", "told(0, 0, 4) = BAD", "told(0, 8, 0) = NONE");
        full.then("begin(); set(0, 0, 3)").refuses("begin() = NO", "undo() = NO", "redo() = NO", "shape(NONE) = FULL",
            "copy(0) = FULL");
    }

    /** Number 0 of any value, a weak list 1, link 2, sum 3; shape 1 below has number 4. Objects 0 .. 4, and 5 of shape 1. */
    private static Story sortable() {
        return Story.of("shape(NONE); number(0, -2147483647, MOST, false, false); link(0, 0, true, false, false, true)")
            .then("link(0, 0, false, false, false, true); derived(0, 0, 0, 0); shape(0); number(1, 0, 9, false, false)")
            .times(5, "object(0)").then("object(1)").times(6, "insert(0, 1, #, #)").stirredBy("insert(4, 1, 0, 4)");
    }

    private static void row(Story story, int... due) {
        for (int k = 0; k < due.length; k++) story.tells("element(0, 1, " + k + ") = " + due[k]);
    }

    private static void sortEdges() {
        Doc.says(18, "A LIST's OBJECTS are put in order by what FIELD g is ahead of it, those in which it is MISSING, or no NUMBER, DERIVED, last; "
            + "rising, or falling; like ones stay as they stood.");
        Story none = sortable();
        for (int g = 0; g < 8; g++) row(none.then("sort(0, 1, " + g + ", true) = 1"), 0, 1, 2, 3, 4, 5);
        Story some = none.then("set(1, 0, MOST); set(3, 0, -2147483647); set(4, 0, MOST); set(5, 0, 0)");
        row(some.then("sort(0, 1, 0, false) = 1"), 3, 5, 1, 4, 0, 2);
        row(some.then("sort(0, 1, 0, true) = 1"), 1, 4, 5, 3, 0, 2);
        row(some.then("sort(0, 1, 3, false) = 1"), 1, 4, 5, 3, 0, 2);
        row(some.then("sort(0, 1, 3, true) = 1"), 3, 5, 1, 4, 0, 2);
        row(some.then("lead(1, 2, 5); lead(5, 2, 0); sort(0, 1, 2, false) = 1"), 0, 1, 2, 3, 4, 5);
        row(none.then("set(5, 4, 9); sort(0, 1, 4, false) = 1"), 5, 0, 1, 2, 3, 4);
        row(none.then("set(5, 4, 0); sort(0, 1, 4, true) = 1"), 5, 0, 1, 2, 3, 4);
        Story empty = sortable().then("sort(1, 1, 0, false) = 1").tells("get(1, 1) = 0", "count(3) = 7");
        empty.then("insert(1, 1, 0, 3); sort(1, 1, 0, true) = 1").tells("get(1, 1) = 1", "element(1, 1, 0) = 3");
        row(none.then("remove(0, 1, 5); insert(0, 1, 0, 4); set(4, 0, 1); set(0, 0, 1); sort(0, 1, 0, true)"), 4, 0, 4, 1, 2, 3);
    }

    private static void sortRange() {
        Doc.says(18, "RANGE: g is not 0 .. 7.");
        sortable().refuses("sort(0, 1, -1, false) = RANGE", "sort(0, 1, 8, false) = RANGE", "sort(0, 1, LEAST, true) = RANGE",
            "sort(0, 1, MOST, true) = RANGE", "sort(1, 1, 8, false) = RANGE");
        sortable().answers("sort(0, 1, 0, false) = 1", "sort(0, 1, 7, false) = 1");
    }
}
