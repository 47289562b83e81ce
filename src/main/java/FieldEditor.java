import java.util.ArrayList;

/** An editor of objects by their fields; ../shared/DOC.md tells what each call promises. */
public final class FieldEditor {
    public static final int NONE = -1, BAD = -2, NO = -3, FULL = -4, KIND = -6, READ_ONLY = -7, RANGE = -8, SHAPE = -9,
        LOOP = -10, REQUIRED = -11, VETO = -12, MISSING = -2147483648;

    private static final int MAX_SHAPES = 10, MAX_FIELDS = 8, MAX_OBJECTS = 60, MAX_PLACES = 6, MAX_PATHS = 16,
        MAX_STEPS = 5, MAX_WATCHES = 10, MAX_NOTES = 40, MAX_KEPT = 60, MAX_CALLS = 512;

    /** Five steps have room for two EVERY, so the document's limit of 500 matches is never come to. */
    private static final int MAX_MATCHES = MAX_PLACES * MAX_PLACES;

    private static final int NUMBER = 0, LINK = 1, LIST = 2, DERIVED = 3;
    private static final int SUM = 0, MOST = 1, SHARE = 2, LENGTH = 3, TOTAL = 4, THERE = 5;
    private static final int IS_REQUIRED = 1, IS_READ_ONLY = 2, IS_WEAK = 4;
    private static final int TO_FIELD = 0, TO_ELEMENT = 1, TO_LAST = 2, TO_EVERY = 3, TO_CAST = 4;

    /** What a judged path stands at: 0 .. 9 an object of that shape, from LIST_OF on a list of it, or a number. */
    private static final int LIST_OF = MAX_SHAPES, AT_NUMBER = 2 * MAX_SHAPES;

    private final Shape[] shapes;
    private int shapeCount;
    private final Thing[] things;
    private int thingCount;
    private final Path[] paths;
    private int pathCount;
    private final Watch[] watches;
    private int watchCount;
    private final History history;
    private final Reach reached;
    private final Pairs pairs;
    private final Spots spots;
    private final Spots otherSpots;
    private final int[] values;

    public FieldEditor() {
        shapes = new Shape[MAX_SHAPES];
        things = new Thing[MAX_OBJECTS];
        paths = new Path[MAX_PATHS];
        watches = new Watch[MAX_WATCHES];
        history = new History();
        reached = new Reach();
        pairs = new Pairs();
        spots = new Spots();
        otherSpots = new Spots();
        values = new int[MAX_FIELDS];
    }

    // ---- shapes

    public int shape(int above) {
        if (above != NONE && !isShape(above)) return BAD;
        if (shapeCount >= MAX_SHAPES) return FULL;
        Shape made = new Shape(above);
        if (above != NONE) {
            made.inherit(shapes[above]);
            shapes[above].closed = true;
        }
        shapes[shapeCount] = made;
        return shapeCount++;
    }

    public int number(int shape, int least, int most, boolean required, boolean readOnly) {
        if (!isShape(shape) || least > most || least == MISSING) return BAD;
        return addField(shapes[shape], new Field(NUMBER, least, most, NONE, flags(required, readOnly, false)));
    }

    public int link(int shape, int to, boolean list, boolean required, boolean readOnly, boolean weak) {
        if (!isShape(shape) || !isShape(to) || list && (required || readOnly)) return BAD;
        return addField(shapes[shape], new Field(list ? LIST : LINK, to, NONE, NONE, flags(required, readOnly, weak)));
    }

    public int derived(int shape, int code, int f, int g) {
        if (!isShape(shape) || !canFollow(shapes[shape], code, f, g)) return BAD;
        return addField(shapes[shape], new Field(DERIVED, code, f, g, 0));
    }

    public int told(int shape, int field, int what) {
        if (!isShape(shape) || what < 0 || what > 3) return BAD;
        Field asked = shapes[shape].fieldAt(field);
        if (asked == null) return NONE;
        switch (what) {
            case 0: return asked.kind;
            case 1: return asked.first;
            case 2: return asked.second;
            default: return asked.flags;
        }
    }

    private boolean isShape(int shape) {
        return shape >= 0 && shape < shapeCount;
    }

    private static int flags(boolean required, boolean readOnly, boolean weak) {
        return (required ? IS_REQUIRED : 0) + (readOnly ? IS_READ_ONLY : 0) + (weak ? IS_WEAK : 0);
    }

    private static int addField(Shape shape, Field field) {
        if (shape.closed) return NO;
        if (shape.size >= MAX_FIELDS) return FULL;
        return shape.append(field);
    }

    /** Whether f and g are such as a derived field with this code may follow from. */
    private boolean canFollow(Shape shape, int code, int f, int g) {
        Field source = shape.fieldAt(f);
        if (source == null) return false;
        switch (code) {
            case SUM:
            case MOST:
            case SHARE:
                Field second = shape.fieldAt(g);
                return source.isNumeric() && second != null && second.isNumeric();
            case LENGTH:
                return source.kind == LIST;
            case TOTAL:
                if (source.kind != LIST) return false;
                Field added = shapes[source.first].fieldAt(g);
                return added != null && added.kind == NUMBER;
            default:
                return code == THERE;
        }
    }

    /** Whether a shape is another one, or stands below it at whatever distance. */
    private boolean isOf(int shape, int other) {
        int at = shape;
        for (int k = 0; k < MAX_SHAPES && at != NONE; k++) {
            if (at == other) return true;
            at = shapes[at].above;
        }
        return false;
    }

    // ---- objects

    public int object(int shape) {
        if (!isShape(shape)) return BAD;
        if (thingCount >= MAX_OBJECTS) return FULL;
        Shape its = shapes[shape];
        its.closed = true;
        Thing made = new Thing(shape, its.size);
        for (int f = 0; f < its.size; f++) made.rows[f] = its.fields[f].firstRow();
        things[thingCount] = made;
        return thingCount++;
    }

    public int get(int object, int field) {
        return fieldOf(object, field) == null ? NONE : valueOf(object, field);
    }

    public int element(int object, int field, int i) {
        if (!isThing(object)) return BAD;
        Field asked = fieldOf(object, field);
        if (asked == null || asked.kind != LIST) return NONE;
        int[] row = things[object].rows[field];
        return i >= 0 && i < row.length ? row[i] : NONE;
    }

    public int shapeOf(int object) {
        return isThing(object) ? things[object].shape : BAD;
    }

    public int holders(int object) {
        if (!isThing(object)) return BAD;
        int found = 0;
        for (int t = 0; t < thingCount; t++) {
            Shape its = shapes[things[t].shape];
            for (int f = 0; f < its.size; f++) {
                if (its.fields[f].leads()) found += timesIn(things[t].rows[f], object);
            }
        }
        return found;
    }

    public int holds(int object, int other) {
        if (!isThing(object) || !isThing(other)) return BAD;
        reach(object);
        // Place 0 is the object itself, and no object ever holds itself.
        return reached.placeOf[other] > 0 ? 1 : 0;
    }

    private boolean isThing(int object) {
        return object >= 0 && object < thingCount;
    }

    /** Null: there is no such object, or it has no such field. */
    private Field fieldOf(int object, int field) {
        return isThing(object) ? shapes[things[object].shape].fieldAt(field) : null;
    }

    private static int timesIn(int[] row, int object) {
        int times = 0;
        for (int held : row) {
            if (held == object) times++;
        }
        return times;
    }

    private int valueOf(int object, int field) {
        Thing thing = things[object];
        Field asked = shapes[thing.shape].fields[field];
        if (asked.kind != DERIVED) return asked.plainValue(thing.rows[field]);
        fillValues(thing, field);
        return values[field];
    }

    /** A derived field follows from lower ones alone, so one pass upwards works all of them out. */
    private void fillValues(Thing thing, int last) {
        Shape its = shapes[thing.shape];
        for (int f = 0; f <= last && f < its.size; f++) {
            Field field = its.fields[f];
            values[f] = field.kind == DERIVED ? derive(its, thing, field) : field.plainValue(thing.rows[f]);
        }
    }

    private int derive(Shape its, Thing thing, Field field) {
        int source = values[field.second];
        switch (field.first) {
            case LENGTH:
                return source;
            case TOTAL:
                return total(thing.rows[field.second], field.g);
            case THERE:
                int nothing = its.fields[field.second].kind == LIST ? 0 : MISSING;
                return source == nothing ? 0 : 1;
            default:
                return ofTwo(field.first, source, values[field.g]);
        }
    }

    private static int ofTwo(int code, int a, int b) {
        if (a == MISSING || b == MISSING) return MISSING;
        if (code == SUM) return a + b;
        if (code == MOST) return Math.max(a, b);
        return b == 0 ? MISSING : a / b;
    }

    private int total(int[] row, int g) {
        int sum = 0;
        for (int held : row) {
            int v = things[held].rows[g][0];
            if (v != MISSING) sum += v;
        }
        return sum;
    }

    /** Finds the object and all that it holds, in the order in which they are come to. */
    private void reach(int object) {
        reached.start(object);
        for (int k = 0; k < MAX_OBJECTS && k < reached.size; k++) {
            Thing thing = things[reached.row[k]];
            Shape its = shapes[thing.shape];
            for (int f = 0; f < its.size; f++) {
                if (its.fields[f].holdsOn()) reached.addAll(thing.rows[f]);
            }
        }
    }

    // ---- edits

    public int set(int object, int field, int v) {
        Field edited = fieldOf(object, field);
        if (edited == null) return BAD;
        if (edited.kind != NUMBER) return KIND;
        if (isLocked(object, field, edited)) return READ_ONLY;
        if (v < edited.first || v > edited.second) return RANGE;
        if (isVetoed(object, field, v)) return VETO;
        return take(object, field, new int[] {v});
    }

    public int lead(int object, int field, int other) {
        Field edited = fieldOf(object, field);
        if (edited == null || !isThing(other)) return BAD;
        if (edited.kind != LINK) return KIND;
        if (isLocked(object, field, edited)) return READ_ONLY;
        if (!isOf(things[other].shape, edited.first)) return SHAPE;
        if (wouldLoop(object, edited, other)) return LOOP;
        return take(object, field, new int[] {other});
    }

    public int unset(int object, int field) {
        Field edited = fieldOf(object, field);
        if (edited == null) return BAD;
        if (edited.kind != NUMBER && edited.kind != LINK) return KIND;
        if (edited.has(IS_READ_ONLY)) return READ_ONLY;
        if (edited.has(IS_REQUIRED)) return REQUIRED;
        return take(object, field, edited.firstRow());
    }

    public int insert(int object, int field, int i, int other) {
        Field edited = fieldOf(object, field);
        if (edited == null || !isThing(other)) return BAD;
        if (edited.kind != LIST) return KIND;
        int[] row = things[object].rows[field];
        if (i < 0 || i > row.length || row.length >= MAX_PLACES) return RANGE;
        if (!isOf(things[other].shape, edited.first)) return SHAPE;
        if (wouldLoop(object, edited, other)) return LOOP;
        return take(object, field, withPlace(row, i, other));
    }

    public int remove(int object, int field, int i) {
        Field edited = fieldOf(object, field);
        if (edited == null) return BAD;
        if (edited.kind != LIST) return KIND;
        int[] row = things[object].rows[field];
        if (i < 0 || i >= row.length) return RANGE;
        return take(object, field, withoutPlace(row, i));
    }

    public int sort(int object, int field, int g, boolean falling) {
        Field edited = fieldOf(object, field);
        if (edited == null) return BAD;
        if (edited.kind != LIST) return KIND;
        if (g < 0 || g >= MAX_FIELDS) return RANGE;
        return take(object, field, inOrder(things[object].rows[field], g, falling));
    }

    public int begin() {
        if (history.open != null) return NO;
        history.open = new Group();
        return 1;
    }

    public int commit() {
        Group over = history.open;
        if (over == null) return NO;
        history.open = null;
        if (!over.edits.isEmpty()) history.push(over);
        return over.edits.size();
    }

    public int abort() {
        Group over = history.open;
        if (over == null) return NO;
        history.open = null;
        takeBack(over);
        return over.edits.size();
    }

    public int undo() {
        if (history.open != null || history.done.isEmpty()) return NO;
        Group last = history.done.remove(history.done.size() - 1);
        takeBack(last);
        history.undone.add(last);
        return history.done.size();
    }

    public int redo() {
        if (history.open != null || history.undone.isEmpty()) return NO;
        Group last = history.undone.remove(history.undone.size() - 1);
        doAgain(last);
        history.done.add(last);
        return history.undone.size();
    }

    private boolean isLocked(int object, int field, Field edited) {
        return edited.has(IS_READ_ONLY) && valueOf(object, field) != MISSING;
    }

    private boolean wouldLoop(int object, Field edited, int other) {
        if (!edited.holdsOn()) return false;
        reach(other);
        return reached.placeOf[object] != NONE;
    }

    private boolean isVetoed(int object, int field, int v) {
        for (int w = 0; w < watchCount; w++) {
            Watch watch = watches[w];
            if (watch.veto && v > watch.limit && sees(watch, object, field)) return true;
        }
        return false;
    }

    private static int[] withPlace(int[] row, int i, int other) {
        int[] longer = new int[row.length + 1];
        System.arraycopy(row, 0, longer, 0, i);
        longer[i] = other;
        System.arraycopy(row, i, longer, i + 1, row.length - i);
        return longer;
    }

    private static int[] withoutPlace(int[] row, int i) {
        int[] shorter = new int[row.length - 1];
        System.arraycopy(row, 0, shorter, 0, i);
        System.arraycopy(row, i + 1, shorter, i, shorter.length - i);
        return shorter;
    }

    private int[] inOrder(int[] row, int g, boolean falling) {
        int[] order = row.clone();
        int[] keys = new int[row.length];
        for (int k = 0; k < row.length; k++) keys[k] = sortKey(row[k], g);
        for (int k = 1; k < order.length; k++) {
            for (int j = k; j > 0 && goesAhead(keys[j], keys[j - 1], falling); j--) {
                swap(keys, j);
                swap(order, j);
            }
        }
        return order;
    }

    private int sortKey(int object, int g) {
        Field by = fieldOf(object, g);
        return by != null && by.isNumeric() ? valueOf(object, g) : MISSING;
    }

    private static boolean goesAhead(int key, int other, boolean falling) {
        if (key == MISSING) return false;
        if (other == MISSING) return true;
        return falling ? key > other : key < other;
    }

    private static void swap(int[] row, int j) {
        int moved = row[j];
        row[j] = row[j - 1];
        row[j - 1] = moved;
    }

    private int take(int object, int field, int[] after) {
        if (!history.hasRoom()) return FULL;
        history.keep(new Edit(object, field, things[object].rows[field], after));
        put(object, field, after);
        return 1;
    }

    private void takeBack(Group group) {
        for (int k = group.edits.size() - 1; k >= 0; k--) {
            Edit edit = group.edits.get(k);
            put(edit.object, edit.field, edit.before);
        }
    }

    private void doAgain(Group group) {
        for (int k = 0; k < group.edits.size(); k++) {
            Edit edit = group.edits.get(k);
            put(edit.object, edit.field, edit.after);
        }
    }

    /** Every change of a field goes through here, so that the watches see undone edits, too. */
    private void put(int object, int field, int[] row) {
        int ahead = valueOf(object, field);
        things[object].rows[field] = row;
        int behind = valueOf(object, field);
        for (int w = 0; w < watchCount; w++) {
            if (sees(watches[w], object, field)) watches[w].write(object, ahead, behind);
        }
    }

    // ---- paths

    public int path() {
        if (pathCount >= MAX_PATHS) return FULL;
        paths[pathCount] = new Path();
        return pathCount++;
    }

    public int step(int path, int kind, int n) {
        if (!isPath(path) || !isStep(kind, n)) return BAD;
        if (paths[path].size >= MAX_STEPS) return FULL;
        return paths[path].append(kind, n);
    }

    public int fault(int path, int shape) {
        if (!isPath(path) || !isShape(shape)) return BAD;
        Path judged = paths[path];
        int at = shape;
        for (int k = 0; k < judged.size; k++) {
            at = judge(at, judged.kinds[k], judged.numbers[k]);
            if (at == NONE) return k;
        }
        return NONE;
    }

    public int matches(int path, int object) {
        if (!isPath(path) || !isThing(object)) return BAD;
        return walk(paths[path], object).size;
    }

    public int match(int path, int object, int i, int what) {
        if (!isPath(path) || !isThing(object) || what < 0 || what > 1) return BAD;
        Spots found = walk(paths[path], object);
        if (i < 0 || i >= found.size) return NONE;
        return what == 0 ? found.objects[i] : found.fields[i];
    }

    private boolean isPath(int path) {
        return path >= 0 && path < pathCount;
    }

    private boolean isStep(int kind, int n) {
        switch (kind) {
            case TO_FIELD: return n >= 0 && n < MAX_FIELDS;
            case TO_ELEMENT: return n >= 0 && n < MAX_PLACES;
            case TO_CAST: return isShape(n);
            default: return kind == TO_LAST || kind == TO_EVERY;
        }
    }

    /** What a step leads to from there (see LIST_OF), NONE if it does not stand. */
    private int judge(int at, int kind, int n) {
        boolean atShape = at < LIST_OF;
        switch (kind) {
            case TO_FIELD: return atShape ? judgeField(shapes[at].fieldAt(n)) : NONE;
            case TO_CAST: return atShape && isOf(n, at) ? n : NONE;
            default: return !atShape && at < AT_NUMBER ? at - LIST_OF : NONE;
        }
    }

    private static int judgeField(Field field) {
        if (field == null) return NONE;
        if (field.kind == LINK) return field.first;
        return field.kind == LIST ? LIST_OF + field.first : AT_NUMBER;
    }

    /** Goes step by step with all matches at once; each row's order is that of the row ahead of it. */
    private Spots walk(Path path, int object) {
        Spots from = spots;
        Spots to = otherSpots;
        from.size = 0;
        from.add(object, NONE);
        for (int k = 0; k < path.size; k++) {
            to.size = 0;
            for (int m = 0; m < from.size; m++) go(path, k, from.objects[m], from.fields[m], to);
            Spots walked = from;
            from = to;
            to = walked;
        }
        return from;
    }

    private void go(Path path, int k, int object, int field, Spots to) {
        int kind = path.kinds[k];
        int n = path.numbers[k];
        if (kind == TO_FIELD) {
            if (field == NONE) goToField(object, n, k == path.size - 1, to);
        } else if (kind == TO_CAST) {
            if (field == NONE && isOf(things[object].shape, n)) to.add(object, NONE);
        } else {
            Field list = fieldOf(object, field);
            if (list != null && list.kind == LIST) goIntoList(things[object].rows[field], kind, n, to);
        }
    }

    private void goToField(int object, int field, boolean last, Spots to) {
        Field next = fieldOf(object, field);
        if (next == null) return;
        if (next.kind != LINK || last) {
            to.add(object, field);
            return;
        }
        int linked = things[object].rows[field][0];
        if (linked != MISSING) to.add(linked, NONE);
    }

    private static void goIntoList(int[] row, int kind, int n, Spots to) {
        int first = kind == TO_ELEMENT ? n : kind == TO_LAST ? row.length - 1 : 0;
        int last = kind == TO_EVERY ? row.length - 1 : first;
        for (int p = Math.max(first, 0); p <= last && p < row.length; p++) to.add(row[p], NONE);
    }

    // ---- copies

    public int copy(int object) {
        if (!isThing(object)) return BAD;
        reach(object);
        int first = thingCount;
        if (first + reached.size > MAX_OBJECTS) return FULL;
        for (int k = 0; k < reached.size; k++) things[first + k] = copyOf(things[reached.row[k]], first);
        thingCount = first + reached.size;
        return first;
    }

    public int alike(int object, int other) {
        if (!isThing(object) || !isThing(other)) return BAD;
        pairs.start();
        pairs.join(object, other);
        for (int k = 0; k < MAX_OBJECTS && k < pairs.size; k++) {
            if (!areLike(things[pairs.left[k]], things[pairs.right[k]])) return 0;
        }
        return 1;
    }

    private Thing copyOf(Thing original, int first) {
        Shape its = shapes[original.shape];
        Thing made = new Thing(original.shape, its.size);
        for (int f = 0; f < its.size; f++) {
            int[] row = original.rows[f].clone();
            if (its.fields[f].leads()) leadToCopies(row, first);
            made.rows[f] = row;
        }
        return made;
    }

    private void leadToCopies(int[] row, int first) {
        for (int p = 0; p < row.length; p++) {
            if (row[p] == MISSING) continue;
            int place = reached.placeOf[row[p]];
            if (place != NONE) row[p] = first + place;
        }
    }

    /** Looks at two objects alone; what they lead to is put down as pairs that must be alike, too. */
    private boolean areLike(Thing one, Thing other) {
        if (one.shape != other.shape) return false;
        Shape its = shapes[one.shape];
        for (int f = 0; f < its.size; f++) {
            if (!rowsLike(one.rows[f], other.rows[f], its.fields[f].leads())) return false;
        }
        return true;
    }

    private boolean rowsLike(int[] one, int[] other, boolean leads) {
        if (one.length != other.length) return false;
        for (int p = 0; p < one.length; p++) {
            if (one[p] == other[p]) continue;
            if (!leads || one[p] == MISSING || other[p] == MISSING) return false;
            pairs.join(one[p], other[p]);
        }
        return true;
    }

    // ---- watches

    public int watch(int shape, int field, boolean veto, int limit) {
        if (!isShape(shape)) return BAD;
        Field watched = shapes[shape].fieldAt(field);
        if (watched == null || watched.kind == DERIVED || veto && watched.kind != NUMBER) return BAD;
        if (watchCount >= MAX_WATCHES) return FULL;
        watches[watchCount] = new Watch(shape, field, veto, limit);
        return watchCount++;
    }

    public int note(int watch, int k, int what) {
        if (watch < 0 || watch >= watchCount || what < 0 || what > 2) return BAD;
        Watch asked = watches[watch];
        if (k < 0 || k >= asked.size) return NONE;
        switch (what) {
            case 0: return asked.objects[k];
            case 1: return asked.ahead[k];
            default: return asked.behind[k];
        }
    }

    public int lacks() {
        int lacking = 0;
        for (int t = 0; t < thingCount; t++) {
            Shape its = shapes[things[t].shape];
            for (int f = 0; f < its.size; f++) {
                if (its.fields[f].has(IS_REQUIRED) && valueOf(t, f) == MISSING) lacking++;
            }
        }
        return lacking;
    }

    public int count(int what) {
        switch (what) {
            case 0: return shapeCount;
            case 1: return thingCount;
            case 2: return pathCount;
            case 3: return history.done.size();
            case 4: return history.undone.size();
            case 5: return history.open == null ? NONE : history.open.edits.size();
            case 6: return watchCount;
            default: return BAD;
        }
    }

    public long digest() {
        long h = 71;
        for (int t = 0; t < thingCount; t++) h = digestOf(things[t], h);
        h = 31 * h + history.done.size();
        return 31 * h + history.undone.size();
    }

    private long digestOf(Thing thing, long before) {
        Shape its = shapes[thing.shape];
        fillValues(thing, its.size - 1);
        long h = 31 * before + thing.shape;
        for (int f = 0; f < its.size; f++) {
            h = 31 * h + values[f];
            if (its.fields[f].kind != LIST) continue;
            for (int held : thing.rows[f]) h = 31 * h + held;
        }
        return h;
    }

    private boolean sees(Watch watch, int object, int field) {
        return watch.field == field && isOf(things[object].shape, watch.shape);
    }

    // ---- the parts

    private static final class Field {
        final int kind;
        /** LEAST of a NUMBER, the SHAPE of a LINK or LIST, CODE of a DERIVED. */
        final int first;
        /** MOST of a NUMBER, f of a DERIVED. */
        final int second;
        final int g;
        final int flags;

        Field(int kind, int first, int second, int g, int flags) {
            this.kind = kind;
            this.first = first;
            this.second = second;
            this.g = g;
            this.flags = flags;
        }

        boolean has(int flag) {
            return (flags & flag) != 0;
        }

        boolean isNumeric() {
            return kind == NUMBER || kind == DERIVED;
        }

        boolean leads() {
            return kind == LINK || kind == LIST;
        }

        boolean holdsOn() {
            return leads() && !has(IS_WEAK);
        }

        /** A number or link is a row of one, a list a row of its length; a derived field keeps nothing. */
        int[] firstRow() {
            return kind == NUMBER || kind == LINK ? new int[] {MISSING} : new int[0];
        }

        int plainValue(int[] row) {
            return kind == NUMBER || kind == LINK ? row[0] : row.length;
        }
    }

    private static final class Shape {
        final int above;
        final Field[] fields;
        int size;
        /** A shape below it, or an object of it, relies on its fields. */
        boolean closed;

        Shape(int above) {
            this.above = above;
            this.fields = new Field[MAX_FIELDS];
        }

        void inherit(Shape from) {
            for (int f = 0; f < from.size; f++) append(from.fields[f]);
        }

        int append(Field field) {
            fields[size] = field;
            return size++;
        }

        Field fieldAt(int field) {
            return field >= 0 && field < size ? fields[field] : null;
        }
    }

    /** Rows are never changed in place, so that edits can keep those ahead of them and behind them. */
    private static final class Thing {
        final int shape;
        final int[][] rows;

        Thing(int shape, int size) {
            this.shape = shape;
            this.rows = new int[size][];
        }
    }

    private static final class Edit {
        final int object;
        final int field;
        final int[] before;
        final int[] after;

        Edit(int object, int field, int[] before, int[] after) {
            this.object = object;
            this.field = field;
            this.before = before;
            this.after = after;
        }
    }

    /** What is taken back as one: the edits of a group, or a single one. */
    private static final class Group {
        final ArrayList<Edit> edits = new ArrayList<>();
    }

    private static final class History {
        final ArrayList<Group> done = new ArrayList<>();
        final ArrayList<Group> undone = new ArrayList<>();
        Group open;

        /** Only a group that goes on for more calls than are promised comes to this limit. */
        boolean hasRoom() {
            return open == null || open.edits.size() < MAX_CALLS;
        }

        void keep(Edit edit) {
            undone.clear();
            if (open != null) {
                open.edits.add(edit);
                return;
            }
            Group single = new Group();
            single.edits.add(edit);
            push(single);
        }

        void push(Group group) {
            if (done.size() >= MAX_KEPT) done.remove(0);
            done.add(group);
        }
    }

    private static final class Path {
        final int[] kinds = new int[MAX_STEPS];
        final int[] numbers = new int[MAX_STEPS];
        int size;

        int append(int kind, int n) {
            kinds[size] = kind;
            numbers[size] = n;
            return ++size;
        }
    }

    /** Where a walk stands: objects, or fields of objects. */
    private static final class Spots {
        final int[] objects = new int[MAX_MATCHES];
        final int[] fields = new int[MAX_MATCHES];
        int size;

        void add(int object, int field) {
            if (size >= MAX_MATCHES) return;
            objects[size] = object;
            fields[size] = field;
            size++;
        }
    }

    /** Objects in the order in which they are come to, each once. */
    private static final class Reach {
        final int[] row = new int[MAX_OBJECTS];
        final int[] placeOf = new int[MAX_OBJECTS];
        int size;

        void start(int object) {
            for (int k = 0; k < MAX_OBJECTS; k++) placeOf[k] = NONE;
            size = 0;
            add(object);
        }

        void addAll(int[] objects) {
            for (int object : objects) {
                if (object != MISSING) add(object);
            }
        }

        private void add(int object) {
            if (placeOf[object] != NONE) return;
            placeOf[object] = size;
            row[size] = object;
            size++;
        }
    }

    /**
     * Pairs that are taken as alike. To be alike goes on from pair to pair, so objects that are in one
     * family by pairs already put down need no pair of their own: there are never more than 59.
     */
    private static final class Pairs {
        final int[] left = new int[MAX_OBJECTS];
        final int[] right = new int[MAX_OBJECTS];
        final int[] family = new int[MAX_OBJECTS];
        int size;

        void start() {
            for (int k = 0; k < MAX_OBJECTS; k++) family[k] = k;
            size = 0;
        }

        void join(int one, int other) {
            int kept = family[one];
            int merged = family[other];
            if (kept == merged) return;
            for (int k = 0; k < MAX_OBJECTS; k++) {
                if (family[k] == merged) family[k] = kept;
            }
            left[size] = one;
            right[size] = other;
            size++;
        }
    }

    private static final class Watch {
        final int shape;
        final int field;
        final boolean veto;
        final int limit;
        final int[] objects = new int[MAX_NOTES];
        final int[] ahead = new int[MAX_NOTES];
        final int[] behind = new int[MAX_NOTES];
        int size;

        Watch(int shape, int field, boolean veto, int limit) {
            this.shape = shape;
            this.field = field;
            this.veto = veto;
            this.limit = limit;
        }

        void write(int object, int valueAhead, int valueBehind) {
            if (size >= MAX_NOTES) return;
            objects[size] = object;
            ahead[size] = valueAhead;
            behind[size] = valueBehind;
            size++;
        }
    }
}
