/** The bounds of promises 24 to 28, and those of paths in the terms. */
final class PathBounds {
    private PathBounds() {
    }

    static void all() {
        pathFull();
        sixteenPaths();
        stepBadPath();
        stepBadKind();
        stepBadField();
        stepBadElement();
        stepBadCast();
        stepNotLookedAt();
        stepFull();
        faultOfNone();
        faultOfFields();
        faultOfLists();
        faultOfCasts();
        faultBad();
        walkMissingLink();
        walkElement();
        walkLast();
        walkEvery();
        walkCast();
        walkWhatDoesNotStand();
        matchIsObject();
        matchIsPlace();
        mostMatches();
        matchesBad();
        matchNone();
        matchBad();
    }

    /**
     * Shape 0: number 0, weak link 1 and weak list 2 to shape 0, the length 3 of 2. Shape 1 below it: number 4.
     * Shape 2 beside them, without fields. Objects 0, 1, 2 of shape 0, 3 of shape 1, 4 of shape 2.
     */
    private static Story made() {
        return Story.of("shape(NONE); number(0, 0, 9, false, false); link(0, 0, false, false, false, true)")
            .then("link(0, 0, true, false, false, true); derived(0, 3, 2, 0); shape(0); number(1, 0, 9, false, false)")
            .then("shape(NONE); object(0); object(0); object(0); object(1); object(2)").stirredBy("insert(2, 2, 0, 2)");
    }

    private static Story with(Story story, String... steps) {
        Story path = story.then("path() = 0");
        for (String step : steps) path = path.then("step(0, " + step + ")");
        return path;
    }

    private static final String NUMBER = "0, 0", LINK = "0, 1", LIST = "0, 2", LENGTH = "0, 3", OWN = "0, 4", LAST = "2, 0",
        EVERY = "3, 0",
        CAST_0 = "4, 0", CAST_1 = "4, 1", CAST_2 = "4, 2";

    private static String element(int i) {
        return "1, " + i;
    }

    private static void pathFull() {
        Doc.says(24, "A PATH without STEPS: its number. FULL: 16.");
        Story fifteen = made().times(15, "path() = #");
        fifteen.answers("path() = 15").then("path() = 15").refuses("path() = FULL").tells("count(2) = 16");
        fifteen.answers("step(14, 2, 0) = 1");
    }

    private static void sixteenPaths() {
        Doc.says("======== 2 PATHS 0 .. 15 are rows of up to 5 STEPS:");
        Story all = made().times(16, "path() = #");
        all.tells("fault(15, 0) = NONE", "matches(15, 0) = 1").answers("step(15, 0, 0) = 1", "step(0, 0, 0) = 1");
        all.refuses("fault(16, 0) = BAD", "matches(16, 0) = BAD", "match(16, 0, 0, 0) = BAD", "step(16, 0, 0) = BAD");
        all.then("step(15, 0, 0)").times(4, "step(15, 2, 0)").refuses("step(15, 2, 0) = FULL").answers("step(14, 2, 0) = 1");
    }

    private static void stepBadPath() {
        Doc.says(25, "A STEP more of a PATH: how many. BAD:");
        made().refuses("step(0, 0, 0) = BAD");
        with(made()).refuses("step(-1, 0, 0) = BAD", "step(1, 0, 0) = BAD", "step(LEAST, 0, 0) = BAD", "step(MOST, 0, 0) = BAD")
            .answers("step(0, 0, 0) = 1");
    }

    private static void stepBadKind() {
        Doc.says(25, "kind (0 .. 4),");
        with(made()).refuses("step(0, -1, 0) = BAD", "step(0, 5, 0) = BAD", "step(0, LEAST, 0) = BAD", "step(0, MOST, 0) = BAD")
            .answers("step(0, 0, 0) = 1", "step(0, 1, 0) = 1", "step(0, 2, 0) = 1", "step(0, 3, 0) = 1", "step(0, 4, 0) = 1");
    }

    private static void stepBadField() {
        Doc.says("0 FIELD f,");
        Doc.says(25, "n: FIELD 0 .. 7,");
        with(made()).refuses("step(0, 0, -1) = BAD", "step(0, 0, 8) = BAD", "step(0, 0, LEAST) = BAD", "step(0, 0, MOST) = BAD")
            .answers("step(0, 0, 0) = 1", "step(0, 0, 7) = 1");
    }

    private static void stepBadElement() {
        Doc.says("1 ELEMENT i (of a LIST),");
        Doc.says(25, "ELEMENT 0 .. 5,");
        with(made()).refuses("step(0, 1, -1) = BAD", "step(0, 1, 6) = BAD", "step(0, 1, LEAST) = BAD", "step(0, 1, MOST) = BAD")
            .answers("step(0, 1, 0) = 1", "step(0, 1, 5) = 1");
    }

    private static void stepBadCast() {
        Doc.says(25, "CAST a SHAPE");
        with(made()).refuses("step(0, 4, -1) = BAD", "step(0, 4, 3) = BAD", "step(0, 4, 10) = BAD", "step(0, 4, LEAST) = BAD",
            "step(0, 4, MOST) = BAD")
            .answers("step(0, 4, 0) = 1", "step(0, 4, 2) = 1");
        Story.of("path()").refuses("step(0, 4, 0) = BAD");
    }

    private static void stepNotLookedAt() {
        Doc.says(25, "(else not looked at);");
        for (String n : new String[] {"-1", "6", "8", "LEAST", "MOST"}) {
            with(made()).answers("step(0, 2, " + n + ") = 1", "step(0, 3, " + n + ") = 1");
        }
        made().then("insert(0, 2, 0, 1); path(); step(0, 0, 2); step(0, 2, -7)").tells("matches(0, 0) = 1", "fault(0, 0) = NONE");
        made().then("insert(0, 2, 0, 1); path(); step(0, 0, 2); step(0, 3, 77)").tells("matches(0, 0) = 1", "fault(0, 0) = NONE");
    }

    private static void stepFull() {
        Doc.says(25, "FULL: 5.");
        Story four = with(made(), LINK, LINK, LINK, LINK);
        four.answers("step(0, 0, 0) = 5");
        four.then("step(0, 0, 4) = 5").tells("fault(0, 0) = 4")
            .refuses("step(0, 0, 0) = FULL", "step(0, 2, 0) = FULL", "step(0, 4, 0) = FULL", "step(0, 0, 8) = BAD",
            "step(0, 5, 0) = BAD");
    }

    private static void fault(int due, int shape, String... steps) {
        with(made(), steps).tells("fault(0, " + shape + ") = " + due);
    }

    private static void faultOfNone() {
        Doc.says(26, "Judged from a SHAPE on: NONE, or the STEP that is its FAULT.");
        Doc.says("A STEP that does not stand so is its FAULT.");
        for (int shape = 0; shape < 3; shape++) fault(-1, shape);
        fault(0, 2, NUMBER);
        fault(0, 0, OWN, OWN);
        fault(4, 0, LINK, LINK, LINK, LINK, OWN);
        fault(-1, 0, LINK, LINK, LINK, LINK, LENGTH);
    }

    private static void faultOfFields() {
        Doc.says("A PATH is judged from a SHAPE on: FIELD: the SHAPE has it; its LINK's SHAPE is next, or a LIST, a NUMBER (DERIVED, too);");
        fault(-1, 0, LENGTH);
        fault(0, 0, OWN);
        fault(-1, 1, OWN);
        fault(0, 1, "0, 5");
        fault(0, 0, "0, 7");
        fault(1, 1, LINK, OWN);
        fault(-1, 1, LINK, LENGTH);
        fault(1, 0, NUMBER, NUMBER);
        fault(1, 0, LENGTH, NUMBER);
        fault(1, 0, LIST, NUMBER);
        fault(1, 0, NUMBER, CAST_0);
        fault(1, 0, NUMBER, EVERY);
        fault(1, 0, LENGTH, LAST);
        fault(-1, 0, LIST);
    }

    private static void faultOfLists() {
        Doc.says("2 LAST (of a LIST), 3 EVERY (of a LIST),");
        Doc.says("ELEMENT, LAST, EVERY: of a LIST: the LIST's SHAPE is next;");
        for (String step : new String[] {element(0), element(5), LAST, EVERY}) {
            fault(0, 0, step);
            fault(1, 0, LINK, step);
            fault(1, 0, NUMBER, step);
            fault(1, 0, LENGTH, step);
            fault(-1, 0, LIST, step, LENGTH);
            fault(2, 0, LIST, step, step);
            fault(2, 1, LIST, step, OWN);
            Story ofLast = Story.of().times(10, "shape(NONE)")
                .then("number(9, 0, 9, false, false); link(9, 9, true, false, false, true)");
            with(ofLast, "0, 1", step, NUMBER).tells("fault(0, 9) = NONE", "fault(0, 8) = 0");
            with(ofLast, "0, 1", step, LIST).tells("fault(0, 9) = 2");
        }
    }

    private static void faultOfCasts() {
        Doc.says("4 CAST to a SHAPE.");
        Doc.says("CAST: of a SHAPE, to one that IS of it.");
        fault(-1, 0, CAST_0);
        fault(-1, 0, CAST_1, OWN);
        fault(0, 1, CAST_0);
        fault(0, 0, CAST_2);
        fault(0, 2, CAST_0);
        fault(-1, 2, CAST_2);
        fault(1, 0, LIST, CAST_0);
        fault(-1, 1, LINK, CAST_1, OWN);
        fault(1, 0, CAST_1, CAST_0);
    }

    private static void faultBad() {
        Doc.says(26, "BAD.");
        with(made()).refuses("fault(-1, 0) = BAD", "fault(1, 0) = BAD", "fault(LEAST, 0) = BAD", "fault(MOST, 0) = BAD",
            "fault(0, -1) = BAD",
            "fault(0, 3) = BAD", "fault(0, 10) = BAD", "fault(0, LEAST) = BAD", "fault(0, MOST) = BAD").tells("fault(0, 2) = NONE");
    }

    /** The matches from object 0 on: each as object and field, the field NONE of an object. */
    private static void walk(Story story, String[] steps, int... due) {
        Story path = with(story, steps).tells("matches(0, 0) = " + due.length / 2);
        for (int k = 0; k < due.length; k++) path.tells("match(0, 0, " + k / 2 + ", " + k % 2 + ") = " + due[k]);
        path.tells("match(0, 0, " + due.length / 2 + ", 0) = NONE", "match(0, 0, " + due.length / 2 + ", 1) = NONE");
    }

    private static String[] steps(String... steps) {
        return steps;
    }

    private static void walkMissingLink() {
        Doc.says("Where a LINK is MISSING,");
        walk(made(), steps(LINK, NUMBER));
        walk(made(), steps(LINK, CAST_0));
        walk(made(), steps(LINK, LINK));
        walk(made().then("lead(0, 1, 1)"), steps(LINK, NUMBER), 1, 0);
        walk(made().then("lead(0, 1, 1)"), steps(LINK, LINK, NUMBER));
        walk(made().then("lead(0, 1, 0)"), steps(LINK, LINK, LINK, LINK, NUMBER), 0, 0);
    }

    private static void walkElement() {
        Doc.says("an ELEMENT, LAST is not there,");
        walk(made(), steps(LIST, element(0)));
        Story one = made().then("insert(0, 2, 0, 3)");
        walk(one, steps(LIST, element(0)), 3, -1);
        walk(one, steps(LIST, element(1)));
        Story six = made().times(5, "insert(0, 2, #, 1)").then("insert(0, 2, 5, 2)");
        walk(six, steps(LIST, element(5)), 2, -1);
        walk(six, steps(LIST, element(4)), 1, -1);
        walk(six.then("remove(0, 2, 0)"), steps(LIST, element(5)));
    }

    private static void walkLast() {
        Doc.says("LAST is not there,");
        walk(made(), steps(LIST, LAST));
        walk(made().then("insert(0, 2, 0, 3)"), steps(LIST, LAST), 3, -1);
        walk(made().then("insert(0, 2, 0, 3); insert(0, 2, 1, 1)"), steps(LIST, LAST, NUMBER), 1, 0);
    }

    private static void walkEvery() {
        Doc.says("TO WALK it from an OBJECT on: all MATCHES, in order: EVERY goes over the LIST's OBJECTS in their order.");
        walk(made(), steps(LIST, EVERY));
        walk(made().then("insert(0, 2, 0, 2)"), steps(LIST, EVERY), 2, -1);
        walk(made().then("insert(0, 2, 0, 2); insert(0, 2, 0, 3); insert(0, 2, 1, 2)"), steps(LIST, EVERY), 3, -1, 2, -1, 2, -1);
        Story nested = made()
            .then("insert(0, 2, 0, 2); insert(0, 2, 1, 1); insert(0, 2, 2, 3); insert(2, 2, 0, 1); insert(3, 2, 0, 0); insert(3, 2, 1, 2)");
        walk(nested, steps(LIST, EVERY, LIST, EVERY, NUMBER), 1, 0, 0, 0, 2, 0);
        walk(nested.then("lead(1, 1, 0)"), steps(LIST, EVERY, LINK, NUMBER), 0, 0);
    }

    private static void walkCast() {
        Doc.says("an OBJECT is not of the SHAPE that CAST tells,");
        walk(made(), steps(CAST_1));
        walk(made(), steps(CAST_2));
        walk(made(), steps(CAST_0), 0, -1);
        walk(made().then("insert(0, 2, 0, 1); insert(0, 2, 1, 3)"), steps(LIST, EVERY, CAST_1, OWN), 3, 4);
        walk(made().then("lead(0, 1, 3)"), steps(LINK, CAST_1), 3, -1);
        walk(made().then("lead(0, 1, 3)"), steps(LINK, CAST_0, OWN), 3, 4);
        walk(made().then("lead(0, 1, 3)"), steps(LINK, CAST_1, CAST_0), 3, -1);
    }

    private static void walkWhatDoesNotStand() {
        Doc.says("or, without being judged, a STEP does not stand, there is no MATCH.");
        Story ready = made().then("insert(0, 2, 0, 3); insert(0, 2, 1, 1); lead(0, 1, 3)");
        walk(ready, steps(OWN));
        walk(ready, steps("0, 7"));
        walk(ready, steps(NUMBER, NUMBER));
        walk(ready, steps(NUMBER, EVERY));
        walk(ready, steps(NUMBER, CAST_0));
        walk(ready, steps(LENGTH, LAST));
        walk(ready, steps(LENGTH, NUMBER));
        walk(ready, steps(LIST, NUMBER));
        walk(ready, steps(LIST, CAST_0));
        walk(ready, steps(LINK, EVERY));
        walk(ready, steps(LINK, LAST));
        walk(ready, steps(LINK, element(0)));
        walk(ready, steps(EVERY));
        walk(ready, steps(LAST));
        walk(ready, steps(element(0)));
        walk(ready, steps(LIST, EVERY, EVERY));
        walk(ready, steps(LIST, EVERY, OWN), 3, 4);
        with(ready, NUMBER).tells("matches(0, 4) = 0", "match(0, 4, 0, 0) = NONE");
    }

    private static void matchIsObject() {
        Doc.says("A MATCH is an OBJECT (behind a LINK, ELEMENT, LAST, EVERY, CAST, or no STEP),");
        Story ready = made().then("insert(0, 2, 0, 3); lead(0, 1, 3)");
        walk(ready, steps(), 0, -1);
        walk(ready, steps(LINK, CAST_1), 3, -1);
        walk(ready, steps(LIST, element(0)), 3, -1);
        walk(ready, steps(LIST, LAST), 3, -1);
        walk(ready, steps(LIST, EVERY), 3, -1);
        walk(ready, steps(CAST_0), 0, -1);
        with(ready).tells("match(0, 4, 0, 0) = 4", "match(0, 4, 0, 1) = NONE");
    }

    private static void matchIsPlace() {
        Doc.says("or a PLACE: a FIELD of an OBJECT, that is a NUMBER, LIST, DERIVED, or a LINK as the last STEP (also if it is MISSING).");
        walk(made(), steps(NUMBER), 0, 0);
        walk(made(), steps(LIST), 0, 2);
        walk(made(), steps(LENGTH), 0, 3);
        walk(made(), steps(LINK), 0, 1);
        walk(made().then("lead(0, 1, 2)"), steps(LINK), 0, 1);
        walk(made().then("lead(0, 1, 2)"), steps(LINK, LINK), 2, 1);
        walk(made().then("lead(0, 1, 0)"), steps(LINK, LINK, LINK, LINK, LINK), 0, 1);
    }

    /** Two EVERY of five steps come to 36, which is the most that any path finds. */
    private static void mostMatches() {
        Doc.says(27, "(500 at most are found).");
        Story full = made().times(6, "insert(0, 2, #, 0)");
        Story path = with(full, LIST, EVERY, LIST, EVERY, NUMBER);
        path.tells("matches(0, 0) = 36", "match(0, 0, 0, 0) = 0", "match(0, 0, 35, 0) = 0", "match(0, 0, 35, 1) = 0",
            "match(0, 0, 36, 0) = NONE",
            "match(0, 0, 499, 0) = NONE", "match(0, 0, 500, 0) = NONE");
        Story last = made().times(5, "insert(0, 2, #, 0)").then("insert(0, 2, 5, 1)").times(6, "insert(1, 2, #, 2)");
        with(last, LIST, EVERY, LIST, EVERY).tells("match(0, 0, 35, 0) = 2", "match(0, 0, 29, 0) = 1", "matches(0, 0) = 36");
    }

    private static void matchesBad() {
        Doc.says(27, "How many MATCHES there are from an OBJECT on (500 at most are found). BAD.");
        with(made()).tells("matches(0, 4) = 1").refuses("matches(-1, 0) = BAD", "matches(1, 0) = BAD", "matches(LEAST, 0) = BAD",
            "matches(MOST, 0) = BAD",
            "matches(0, -1) = BAD", "matches(0, 5) = BAD", "matches(0, 60) = BAD", "matches(0, LEAST) = BAD",
            "matches(0, MOST) = BAD");
    }

    private static void matchNone() {
        Doc.says(28, "Of the i-th MATCH: 0 the OBJECT, 1 the FIELD of a PLACE (NONE: it is an OBJECT). NONE: there is none such.");
        with(made(), LIST, EVERY).tells("match(0, 0, 0, 0) = NONE", "match(0, 0, 0, 1) = NONE");
        Story two = with(made().then("insert(0, 2, 0, 1); insert(0, 2, 1, 2)"), LIST, EVERY);
        two.tells("match(0, 0, 0, 0) = 1", "match(0, 0, 1, 0) = 2", "match(0, 0, 1, 1) = NONE", "match(0, 0, 2, 0) = NONE",
            "match(0, 0, -1, 0) = NONE",
            "match(0, 0, LEAST, 0) = NONE", "match(0, 0, MOST, 1) = NONE");
    }

    private static void matchBad() {
        Doc.says(28, "BAD: also what.");
        with(made()).refuses("match(0, 0, 0, -1) = BAD", "match(0, 0, 0, 2) = BAD", "match(0, 0, 0, LEAST) = BAD",
            "match(0, 0, 0, MOST) = BAD",
            "match(0, 0, 9, 2) = BAD", "match(-1, 0, 0, 0) = BAD", "match(1, 0, 0, 0) = BAD", "match(MOST, 0, 0, 0) = BAD",
            "match(0, -1, 0, 0) = BAD",
            "match(0, 5, 0, 0) = BAD", "match(0, MOST, 0, 0) = BAD", "match(0, LEAST, 0, 0) = BAD", "match(LEAST, 0, 0, 0) = BAD")
            .tells("match(0, 0, 0, 0) = 0", "match(0, 0, 0, 1) = NONE");
    }
}
