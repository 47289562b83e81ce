/** Promises 24 to 28: path, step, fault, matches, match. */
public final class PathsTest {
    private static final int FIELD = 0, ELEMENT = 1, LAST = 2, EVERY = 3, CAST = 4;

    public static void main(String[] args) {
        path();
        step();
        fault();
        faultOfCasts();
        matchesOfObjects();
        matchesOfPlaces();
        matchesOfLists();
        matchesOfCasts();
        matchesWithoutJudging();
        mostMatches();
        matchRefused();
        Check.end();
    }

    /**
     * Shape 0: field 0 a number, 1 a link to 0, 2 a list of 0, 3 the length of 2.
     * Shape 1 below it: field 4 a number more. Objects 0 .. 2 of shape 0, 3 and 4 of shape 1.
     */
    private static FieldEditor made() {
        FieldEditor x = new FieldEditor();
        x.shape(FieldEditor.NONE);
        x.number(0, 0, 9, false, false);
        x.link(0, 0, false, false, false, true);
        x.link(0, 0, true, false, false, true);
        x.derived(0, 3, 2, 0);
        x.shape(0);
        x.number(1, 0, 9, false, false);
        for (int k = 0; k < 5; k++) x.object(k < 3 ? 0 : 1);
        return x;
    }

    /** A path of kinds and numbers, by turns. */
    private static int pathOf(FieldEditor x, int... steps) {
        int path = x.path();
        for (int k = 0; k < steps.length; k += 2) x.step(path, steps[k], steps[k + 1]);
        return path;
    }

    private static void path() {
        FieldEditor x = new FieldEditor();
        for (int k = 0; k < 16; k++) Check.due("path " + k, x.path(), k);
        Check.due("a 17th", x.path(), FieldEditor.FULL);
        Check.due("count", x.count(2), 16);
    }

    private static void step() {
        FieldEditor x = made();
        Check.due("no path", x.step(0, FIELD, 0), FieldEditor.BAD);
        x.path();
        Check.due("path -1", x.step(-1, FIELD, 0), FieldEditor.BAD);
        Check.due("kind -1", x.step(0, -1, 0), FieldEditor.BAD);
        Check.due("kind 5", x.step(0, 5, 0), FieldEditor.BAD);
        Check.due("field -1", x.step(0, FIELD, -1), FieldEditor.BAD);
        Check.due("field 8", x.step(0, FIELD, 8), FieldEditor.BAD);
        Check.due("element -1", x.step(0, ELEMENT, -1), FieldEditor.BAD);
        Check.due("element 6", x.step(0, ELEMENT, 6), FieldEditor.BAD);
        Check.due("cast to 2", x.step(0, CAST, 2), FieldEditor.BAD);
        Check.due("cast to -1", x.step(0, CAST, -1), FieldEditor.BAD);
        Check.due("field 7", x.step(0, FIELD, 7), 1);
        Check.due("element 5", x.step(0, ELEMENT, 5), 2);
        Check.due("last, n not looked at", x.step(0, LAST, -5), 3);
        Check.due("every, n not looked at", x.step(0, EVERY, 99), 4);
        Check.due("cast to 1", x.step(0, CAST, 1), 5);
        Check.due("a 6th", x.step(0, FIELD, 0), FieldEditor.FULL);
        Check.due("BAD ahead of FULL", x.step(0, FIELD, 8), FieldEditor.BAD);
        x.path();
        Check.due("another path has its own", x.step(1, FIELD, 0), 1);
    }

    private static void fault() {
        FieldEditor x = made();
        faultDue(x, "no steps", -1);
        faultDue(x, "a number", -1, FIELD, 0);
        faultDue(x, "a derived one", -1, FIELD, 3);
        faultDue(x, "a field it has not", 0, FIELD, 4);
        faultDue(x, "behind a number", 1, FIELD, 0, FIELD, 0);
        faultDue(x, "behind a derived one", 1, FIELD, 3, EVERY, 0);
        faultDue(x, "behind a link", -1, FIELD, 1, FIELD, 1, FIELD, 2);
        faultDue(x, "a list is no shape", 1, FIELD, 2, FIELD, 0);
        faultDue(x, "a list can't be cast", 1, FIELD, 2, CAST, 0);
        faultDue(x, "a number can't be cast", 1, FIELD, 0, CAST, 0);
        faultDue(x, "element", -1, FIELD, 2, ELEMENT, 5, FIELD, 0);
        faultDue(x, "last", -1, FIELD, 2, LAST, 0, FIELD, 0);
        faultDue(x, "every, twice", -1, FIELD, 2, EVERY, 0, FIELD, 2, EVERY, 0, FIELD, 0);
        faultDue(x, "element of a shape", 0, ELEMENT, 0);
        faultDue(x, "last of a link", 1, FIELD, 1, LAST, 0);
        faultDue(x, "every of every", 2, FIELD, 2, EVERY, 0, EVERY, 0);
        faultDue(x, "the last step", 4, FIELD, 1, FIELD, 1, FIELD, 1, FIELD, 1, FIELD, 4);
        Check.due("no path", x.fault(-1, 0), FieldEditor.BAD);
        Check.due("a path not there", x.fault(17, 0), FieldEditor.BAD);
        Check.due("no shape", x.fault(0, 2), FieldEditor.BAD);
        Check.due("shape -1", x.fault(0, -1), FieldEditor.BAD);
    }

    private static void faultDue(FieldEditor x, String what, int due, int... steps) {
        FieldEditor y = x.count(2) < 16 ? x : made();
        Check.due(what, y.fault(pathOf(y, steps), 0), due);
    }

    private static void faultOfCasts() {
        FieldEditor x = made();
        x.shape(FieldEditor.NONE);
        int down = pathOf(x, CAST, 1, FIELD, 4);
        int up = pathOf(x, CAST, 0, FIELD, 4);
        int beside = pathOf(x, CAST, 2);
        int behindLink = pathOf(x, FIELD, 1, CAST, 1, FIELD, 4);
        Check.due("down", x.fault(down, 0), -1);
        Check.due("to itself", x.fault(down, 1), -1);
        Check.due("up", x.fault(up, 1), 0);
        Check.due("to itself without the field", x.fault(up, 0), 1);
        Check.due("beside", x.fault(beside, 0), 0);
        Check.due("behind a link", x.fault(behindLink, 1), -1);
        Check.due("of a shape that has no such link", x.fault(behindLink, 2), 0);
        int own = pathOf(x, FIELD, 4);
        Check.due("judged from the shape below", x.fault(own, 1), -1);
        x.link(2, 1, true, false, false, false);
        int inList = pathOf(x, FIELD, 0, EVERY, 0, FIELD, 4);
        Check.due("of a list of the shape below", x.fault(inList, 2), -1);
        Check.due("a list of shapes that have it not", x.fault(pathOf(x, FIELD, 0, LAST, 0, FIELD, 5), 2), 2);
        Check.due("judged from the shape above", x.fault(own, 0), 0);
        int late = pathOf(x, FIELD, 1);
        Check.due("not there yet", x.fault(late, 2), 0);
        x.number(2, 0, 1, false, false);
        Check.due("there now", x.fault(late, 2), -1);
    }

    private static void matchesOfObjects() {
        FieldEditor x = made();
        int none = pathOf(x);
        Check.due("no step", x.matches(none, 2), 1);
        matchDue(x, "no step", none, 2, 0, 2, -1);
        int behind = pathOf(x, FIELD, 1, CAST, 0);
        Check.due("the link is missing", x.matches(behind, 0), 0);
        x.lead(0, 1, 3);
        Check.due("it is there", x.matches(behind, 0), 1);
        matchDue(x, "behind the link", behind, 0, 0, 3, -1);
    }

    private static void matchesOfPlaces() {
        FieldEditor x = made();
        int[] kinds = {0, 2, 3};
        for (int f : kinds) {
            int place = pathOf(x, FIELD, f);
            Check.due("field " + f, x.matches(place, 1), 1);
            matchDue(x, "field " + f, place, 1, 0, 1, f);
        }
        int link = pathOf(x, FIELD, 1);
        matchDue(x, "a missing link as the last step", link, 0, 0, 0, 1);
        x.lead(0, 1, 2);
        Check.due("a link as the last step", x.matches(link, 0), 1);
        matchDue(x, "a link as the last step", link, 0, 0, 0, 1);
        int linkOfLink = pathOf(x, FIELD, 1, FIELD, 1);
        matchDue(x, "the link of what a link leads to", linkOfLink, 0, 0, 2, 1);
        Check.due("of nothing", x.matches(linkOfLink, 2), 0);
    }

    private static void matchesOfLists() {
        FieldEditor x = made();
        int second = pathOf(x, FIELD, 2, ELEMENT, 1);
        int last = pathOf(x, FIELD, 2, LAST, 0);
        int every = pathOf(x, FIELD, 2, EVERY, 0);
        int numbers = pathOf(x, FIELD, 2, EVERY, 0, FIELD, 0);
        int twice = pathOf(x, FIELD, 2, EVERY, 0, FIELD, 2, EVERY, 0);
        for (int p = 0; p < 5; p++) Check.due("of an empty list " + p, x.matches(p, 0), 0);
        x.insert(0, 2, 0, 4);
        Check.due("place 1 is not there", x.matches(second, 0), 0);
        matchDue(x, "the last is the first", last, 0, 0, 4, -1);
        x.insert(0, 2, 1, 1);
        x.insert(0, 2, 2, 4);
        matchDue(x, "place 1", second, 0, 0, 1, -1);
        Check.due("one", x.matches(second, 0), 1);
        matchDue(x, "the last", last, 0, 0, 4, -1);
        matchDue(x, "place 0", pathOf(x, FIELD, 2, ELEMENT, 0), 0, 0, 4, -1);
        x.insert(0, 2, 3, 2);
        matchDue(x, "place 3", pathOf(x, FIELD, 2, ELEMENT, 3), 0, 0, 2, -1);
        Check.due("no place 4", x.matches(pathOf(x, FIELD, 2, ELEMENT, 4), 0), 0);
        x.undo();
        Check.due("every", x.matches(every, 0), 3);
        int[] row = {4, 1, 4};
        for (int k = 0; k < 3; k++) {
            matchDue(x, "every " + k, every, 0, k, row[k], -1);
            matchDue(x, "numbers " + k, numbers, 0, k, row[k], 0);
        }
        x.insert(4, 2, 0, 2);
        x.insert(4, 2, 1, 3);
        x.insert(1, 2, 0, 0);
        Check.due("twice", x.matches(twice, 0), 5);
        int[] all = {2, 3, 0, 2, 3};
        for (int k = 0; k < 5; k++) matchDue(x, "twice " + k, twice, 0, k, all[k], -1);
    }

    private static void matchesOfCasts() {
        FieldEditor x = made();
        x.insert(0, 2, 0, 3);
        x.insert(0, 2, 1, 1);
        x.insert(0, 2, 2, 4);
        int cast = pathOf(x, FIELD, 2, EVERY, 0, CAST, 1, FIELD, 4);
        Check.due("those of the shape alone", x.matches(cast, 0), 2);
        matchDue(x, "the first", cast, 0, 0, 3, 4);
        matchDue(x, "the second", cast, 0, 1, 4, 4);
        int up = pathOf(x, CAST, 0);
        Check.due("is of the shape above", x.matches(up, 3), 1);
        matchDue(x, "is itself", up, 3, 0, 3, -1);
        Check.due("is not of the shape below", x.matches(pathOf(x, CAST, 1), 0), 0);
    }

    private static void matchesWithoutJudging() {
        FieldEditor x = made();
        x.insert(0, 2, 0, 3);
        x.insert(0, 2, 1, 1);
        x.lead(0, 1, 3);
        noMatch(x, FIELD, 4);
        noMatch(x, FIELD, 0, FIELD, 0);
        noMatch(x, FIELD, 0, EVERY, 0);
        noMatch(x, FIELD, 3, LAST, 0);
        noMatch(x, FIELD, 2, FIELD, 0);
        noMatch(x, FIELD, 2, CAST, 0);
        noMatch(x, FIELD, 0, CAST, 0);
        noMatch(x, EVERY, 0);
        noMatch(x, ELEMENT, 0);
        noMatch(x, FIELD, 1, EVERY, 0);
        noMatch(x, FIELD, 2, EVERY, 0, EVERY, 0);
        int without = pathOf(x, FIELD, 2, EVERY, 0, FIELD, 4);
        Check.due("a fault when judged", x.fault(without, 0), 2);
        Check.due("walked by what objects are", x.matches(without, 0), 1);
        matchDue(x, "the one that has it", without, 0, 0, 3, 4);
    }

    private static void noMatch(FieldEditor x, int... steps) {
        int path = pathOf(x, steps);
        Check.due("does not stand " + path, x.matches(path, 0), 0);
        Check.due("none such " + path, x.match(path, 0, 0, 0), FieldEditor.NONE);
    }

    private static void mostMatches() {
        FieldEditor x = made();
        for (int k = 0; k < 6; k++) {
            x.insert(0, 2, k, k % 2);
            x.insert(1, 2, k, 3 + k % 2);
        }
        int path = pathOf(x, FIELD, 2, EVERY, 0, FIELD, 2, EVERY, 0, FIELD, 0);
        Check.due("36", x.matches(path, 0), 36);
        for (int k = 0; k < 36; k++) {
            matchDue(x, "match " + k, path, 0, k, k / 6 % 2 == 0 ? k % 2 : 3 + k % 2, 0);
        }
        Check.due("no 37th", x.match(path, 0, 36, 0), FieldEditor.NONE);
    }

    private static void matchRefused() {
        FieldEditor x = made();
        int path = pathOf(x, FIELD, 0);
        Check.due("i 1", x.match(path, 0, 1, 0), FieldEditor.NONE);
        Check.due("i -1", x.match(path, 0, -1, 0), FieldEditor.NONE);
        Check.due("what 2", x.match(path, 0, 0, 2), FieldEditor.BAD);
        Check.due("what -1", x.match(path, 0, 0, -1), FieldEditor.BAD);
        Check.due("BAD ahead of NONE", x.match(path, 0, 5, 2), FieldEditor.BAD);
        Check.due("no path", x.match(1, 0, 0, 0), FieldEditor.BAD);
        Check.due("path -1", x.match(-1, 0, 0, 0), FieldEditor.BAD);
        Check.due("no object", x.match(path, 5, 0, 0), FieldEditor.BAD);
        Check.due("object -1", x.match(path, -1, 0, 0), FieldEditor.BAD);
        Check.due("matches of no path", x.matches(1, 0), FieldEditor.BAD);
        Check.due("matches of path -1", x.matches(-1, 0), FieldEditor.BAD);
        Check.due("matches of no object", x.matches(path, 5), FieldEditor.BAD);
        Check.due("matches of object -1", x.matches(path, -1), FieldEditor.BAD);
    }

    private static void matchDue(FieldEditor x, String what, int path, int from, int i, int object, int field) {
        Check.due(what + ": object", x.match(path, from, i, 0), object);
        Check.due(what + ": field", x.match(path, from, i, 1), field);
    }
}
