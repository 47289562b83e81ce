import java.util.ArrayDeque;
import java.util.ArrayList;
import java.util.Arrays;
import java.util.Collections;
import java.util.Deque;
import java.util.LinkedHashSet;
import java.util.List;
import java.util.Set;

/**
 * The document a second time, written for plainness alone and by other ways than the program where
 * there are any: values are boxed, derived fields and walks recurse, alike() refines all pairs.
 */
final class PlainModel {
    private static final int NONE = -1, BAD = -2, NO = -3, FULL = -4, MISSING = Integer.MIN_VALUE;

    private static final class F {
        int kind, low, high = NONE, g;
        boolean required, readOnly, weak;
    }

    private static final class S {
        int above;
        boolean closed;
        final List<F> fields = new ArrayList<>();
    }

    private static final class O {
        int shape;
        /** A number or link has one value or none, a list as many as it has objects. */
        final List<List<Integer>> fields = new ArrayList<>();
    }

    private record Change(int object, int field, List<Integer> before, List<Integer> after) {
    }

    private record Watcher(int shape, int field, boolean veto, int limit, List<int[]> notes) {
    }

    private final List<S> shapes = new ArrayList<>();
    private final List<O> objects = new ArrayList<>();
    private final List<List<int[]>> paths = new ArrayList<>();
    private final List<Watcher> watches = new ArrayList<>();
    private final Deque<List<Change>> done = new ArrayDeque<>();
    private final Deque<List<Change>> undone = new ArrayDeque<>();
    private List<Change> open = null;

    // ---- shapes

    public int shape(int above) {
        if (above != NONE && outside(above, shapes)) return BAD;
        if (shapes.size() == 10) return FULL;
        S s = new S();
        s.above = above;
        if (above != NONE) {
            s.fields.addAll(shapes.get(above).fields);
            shapes.get(above).closed = true;
        }
        shapes.add(s);
        return shapes.size() - 1;
    }

    public int number(int shape, int least, int most, boolean required, boolean readOnly) {
        if (outside(shape, shapes) || least > most || least == MISSING) return BAD;
        F f = new F();
        f.low = least;
        f.high = most;
        f.required = required;
        f.readOnly = readOnly;
        return more(shape, f);
    }

    public int link(int shape, int to, boolean list, boolean required, boolean readOnly, boolean weak) {
        if (outside(shape, shapes) || outside(to, shapes)) return BAD;
        if (list && required || list && readOnly) return BAD;
        F f = new F();
        f.kind = list ? 2 : 1;
        f.low = to;
        f.required = required;
        f.readOnly = readOnly;
        f.weak = weak;
        return more(shape, f);
    }

    public int derived(int shape, int code, int f, int g) {
        if (outside(shape, shapes) || code < 0 || code > 5) return BAD;
        List<F> own = shapes.get(shape).fields;
        if (outside(f, own)) return BAD;
        F from = own.get(f);
        if (code < 3 && (outside(g, own) || from.kind % 3 != 0 || own.get(g).kind % 3 != 0)) return BAD;
        if ((code == 3 || code == 4) && from.kind != 2) return BAD;
        if (code == 4) {
            List<F> theirs = shapes.get(from.low).fields;
            if (outside(g, theirs) || theirs.get(g).kind != 0) return BAD;
        }
        F made = new F();
        made.kind = 3;
        made.low = code;
        made.high = f;
        made.g = g;
        return more(shape, made);
    }

    public int told(int shape, int field, int what) {
        if (outside(shape, shapes) || what < 0 || what > 3) return BAD;
        if (outside(field, shapes.get(shape).fields)) return NONE;
        F f = shapes.get(shape).fields.get(field);
        int flags = (f.required ? 1 : 0) | (f.readOnly ? 2 : 0) | (f.weak ? 4 : 0);
        return new int[] {f.kind, f.low, f.high, flags}[what];
    }

    private static boolean outside(int i, List<?> list) {
        return i < 0 || i >= list.size();
    }

    private int more(int shape, F field) {
        S s = shapes.get(shape);
        if (s.closed) return NO;
        if (s.fields.size() == 8) return FULL;
        s.fields.add(field);
        return s.fields.size() - 1;
    }

    private boolean is(int shape, int of) {
        return shape == of || shape != NONE && is(shapes.get(shape).above, of);
    }

    // ---- objects

    public int object(int shape) {
        if (outside(shape, shapes)) return BAD;
        if (objects.size() == 60) return FULL;
        O o = new O();
        o.shape = shape;
        shapes.get(shape).closed = true;
        for (int k = 0; k < shapes.get(shape).fields.size(); k++) o.fields.add(List.of());
        objects.add(o);
        return objects.size() - 1;
    }

    public int get(int object, int field) {
        if (outside(object, objects) || outside(field, objects.get(object).fields)) return NONE;
        F f = field(object, field);
        List<Integer> value = value(object, field);
        if (f.kind == 2) return value.size();
        if (f.kind < 2) return value.isEmpty() ? MISSING : value.get(0);
        if (f.low == 3) return get(object, f.high);
        if (f.low == 4) {
            int sum = 0;
            for (int held : value(object, f.high)) if (get(held, f.g) != MISSING) sum += get(held, f.g);
            return sum;
        }
        int a = get(object, f.high);
        if (f.low == 5) return field(object, f.high).kind == 2 ? (a > 0 ? 1 : 0) : a == MISSING ? 0 : 1;
        int b = get(object, f.g);
        if (a == MISSING || b == MISSING || f.low == 2 && b == 0) return MISSING;
        return f.low == 0 ? a + b : f.low == 1 ? (a > b ? a : b) : a / b;
    }

    public int element(int object, int field, int i) {
        if (outside(object, objects)) return BAD;
        if (outside(field, objects.get(object).fields) || field(object, field).kind != 2) return NONE;
        return outside(i, value(object, field)) ? NONE : value(object, field).get(i);
    }

    public int shapeOf(int object) {
        return outside(object, objects) ? BAD : objects.get(object).shape;
    }

    public int holders(int object) {
        if (outside(object, objects)) return BAD;
        int found = 0;
        for (int o = 0; o < objects.size(); o++) {
            for (int f = 0; f < objects.get(o).fields.size(); f++) {
                int kind = field(o, f).kind;
                if (kind == 1 || kind == 2) found += Collections.frequency(value(o, f), object);
            }
        }
        return found;
    }

    public int holds(int object, int other) {
        if (outside(object, objects) || outside(other, objects)) return BAD;
        return holdsAtAnyDistance(object, other) ? 1 : 0;
    }

    private F field(int object, int field) {
        return shapes.get(objects.get(object).shape).fields.get(field);
    }

    private List<Integer> value(int object, int field) {
        return objects.get(object).fields.get(field);
    }

    private List<Integer> held(int object) {
        List<Integer> all = new ArrayList<>();
        for (int f = 0; f < objects.get(object).fields.size(); f++) {
            F field = field(object, f);
            if ((field.kind == 1 || field.kind == 2) && !field.weak) all.addAll(value(object, f));
        }
        return all;
    }

    private boolean holdsAtAnyDistance(int object, int other) {
        Set<Integer> all = new LinkedHashSet<>(held(object));
        int size = -1;
        while (size != all.size()) {
            size = all.size();
            for (int each : List.copyOf(all)) all.addAll(held(each));
        }
        return all.contains(other);
    }

    // ---- edits

    public int set(int object, int field, int v) {
        if (noPlace(object, field)) return BAD;
        F f = field(object, field);
        if (f.kind != 0) return -6;
        if (f.readOnly && get(object, field) != MISSING) return -7;
        if (v < f.low || v > f.high) return -8;
        for (Watcher w : watches) if (w.veto && v > w.limit && w.field == field && is(shapeOf(object), w.shape)) return -12;
        return take(object, field, List.of(v));
    }

    public int lead(int object, int field, int other) {
        if (noPlace(object, field) || outside(other, objects)) return BAD;
        F f = field(object, field);
        if (f.kind != 1) return -6;
        if (f.readOnly && get(object, field) != MISSING) return -7;
        if (!is(shapeOf(other), f.low)) return -9;
        if (!f.weak && (object == other || holdsAtAnyDistance(other, object))) return -10;
        return take(object, field, List.of(other));
    }

    public int unset(int object, int field) {
        if (noPlace(object, field)) return BAD;
        F f = field(object, field);
        if (f.kind > 1) return -6;
        if (f.readOnly) return -7;
        return f.required ? -11 : take(object, field, List.of());
    }

    public int insert(int object, int field, int i, int other) {
        if (noPlace(object, field) || outside(other, objects)) return BAD;
        F f = field(object, field);
        if (f.kind != 2) return -6;
        List<Integer> list = new ArrayList<>(value(object, field));
        if (i < 0 || i > list.size() || list.size() == 6) return -8;
        if (!is(shapeOf(other), f.low)) return -9;
        if (!f.weak && (object == other || holdsAtAnyDistance(other, object))) return -10;
        list.add(i, other);
        return take(object, field, list);
    }

    public int remove(int object, int field, int i) {
        if (noPlace(object, field)) return BAD;
        if (field(object, field).kind != 2) return -6;
        List<Integer> list = new ArrayList<>(value(object, field));
        if (outside(i, list)) return -8;
        list.remove(i);
        return take(object, field, list);
    }

    public int sort(int object, int field, int g, boolean falling) {
        if (noPlace(object, field)) return BAD;
        if (field(object, field).kind != 2) return -6;
        if (g < 0 || g > 7) return -8;
        List<Integer> there = new ArrayList<>();
        List<Integer> not = new ArrayList<>();
        for (int o : value(object, field)) {
            boolean has = !noPlace(o, g) && field(o, g).kind % 3 == 0 && get(o, g) != MISSING;
            (has ? there : not).add(o);
        }
        there.sort((a, b) -> falling ? Integer.compare(get(b, g), get(a, g)) : Integer.compare(get(a, g), get(b, g)));
        there.addAll(not);
        return take(object, field, there);
    }

    public int begin() {
        if (open != null) return NO;
        open = new ArrayList<>();
        return 1;
    }

    public int commit() {
        if (open == null) return NO;
        List<Change> group = open;
        open = null;
        if (!group.isEmpty()) keep(group);
        return group.size();
    }

    public int abort() {
        if (open == null) return NO;
        List<Change> group = open;
        open = null;
        back(group);
        return group.size();
    }

    public int undo() {
        if (open != null || done.isEmpty()) return NO;
        List<Change> group = done.removeLast();
        back(group);
        undone.addLast(group);
        return done.size();
    }

    public int redo() {
        if (open != null || undone.isEmpty()) return NO;
        List<Change> group = undone.removeLast();
        for (Change c : group) put(c.object, c.field, c.after);
        done.addLast(group);
        return undone.size();
    }

    private boolean noPlace(int object, int field) {
        return outside(object, objects) || outside(field, objects.get(object).fields);
    }

    private int take(int object, int field, List<Integer> after) {
        Change change = new Change(object, field, value(object, field), List.copyOf(after));
        undone.clear();
        if (open != null) open.add(change);
        else keep(List.of(change));
        put(object, field, change.after);
        return 1;
    }

    private void keep(List<Change> group) {
        done.addLast(group);
        if (done.size() > 60) done.removeFirst();
    }

    private void back(List<Change> group) {
        for (int k = group.size() - 1; k >= 0; k--) put(group.get(k).object, group.get(k).field, group.get(k).before);
    }

    private void put(int object, int field, List<Integer> value) {
        int ahead = get(object, field);
        objects.get(object).fields.set(field, value);
        for (Watcher w : watches) {
            boolean sees = w.field == field && is(shapeOf(object), w.shape);
            if (sees && w.notes.size() < 40) w.notes.add(new int[] {object, ahead, get(object, field)});
        }
    }

    // ---- paths

    public int path() {
        if (paths.size() == 16) return FULL;
        paths.add(new ArrayList<>());
        return paths.size() - 1;
    }

    public int step(int path, int kind, int n) {
        if (outside(path, paths) || kind < 0 || kind > 4) return BAD;
        int most = kind == 0 ? 7 : kind == 1 ? 5 : kind == 4 ? shapes.size() - 1 : Integer.MAX_VALUE;
        if (n > most || n < 0 && kind != 2 && kind != 3) return BAD;
        if (paths.get(path).size() == 5) return FULL;
        paths.get(path).add(new int[] {kind, n});
        return paths.get(path).size();
    }

    public int fault(int path, int shape) {
        if (outside(path, paths) || outside(shape, shapes)) return BAD;
        String at = "shape";
        int of = shape;
        for (int k = 0; k < paths.get(path).size(); k++) {
            int kind = paths.get(path).get(k)[0];
            int n = paths.get(path).get(k)[1];
            boolean stands;
            if (kind == 0) {
                stands = at.equals("shape") && !outside(n, shapes.get(of).fields);
                if (stands) {
                    F f = shapes.get(of).fields.get(n);
                    at = f.kind == 1 ? "shape" : f.kind == 2 ? "list" : "number";
                    of = f.low;
                }
            } else if (kind == 4) {
                stands = at.equals("shape") && is(n, of);
                of = n;
            } else {
                stands = at.equals("list");
                at = "shape";
            }
            if (!stands) return k;
        }
        return NONE;
    }

    public int matches(int path, int object) {
        if (outside(path, paths) || outside(object, objects)) return BAD;
        return found(path, object).size();
    }

    public int match(int path, int object, int i, int what) {
        if (outside(path, paths) || outside(object, objects) || what < 0 || what > 1) return BAD;
        List<int[]> all = found(path, object);
        return outside(i, all) ? NONE : all.get(i)[what];
    }

    private List<int[]> found(int path, int object) {
        List<int[]> all = new ArrayList<>();
        walk(paths.get(path), object, NONE, all);
        return all;
    }

    private void walk(List<int[]> steps, int object, int field, List<int[]> all) {
        if (steps.isEmpty()) {
            all.add(new int[] {object, field});
            return;
        }
        int kind = steps.get(0)[0];
        int n = steps.get(0)[1];
        List<int[]> rest = steps.subList(1, steps.size());
        boolean list = field != NONE && field(object, field).kind == 2;
        if (kind == 0 && field == NONE && !noPlace(object, n)) {
            if (field(object, n).kind != 1 || rest.isEmpty()) walk(rest, object, n, all);
            else if (get(object, n) != MISSING) walk(rest, get(object, n), NONE, all);
        }
        if (kind == 1 && list && !outside(n, value(object, field))) walk(rest, value(object, field).get(n), NONE, all);
        if (kind == 2 && list && get(object, field) > 0) walk(rest, value(object, field).get(get(object, field) - 1), NONE, all);
        if (kind == 3 && list) for (int each : value(object, field)) walk(rest, each, NONE, all);
        if (kind == 4 && field == NONE && is(shapeOf(object), n)) walk(rest, object, NONE, all);
    }

    // ---- copies

    public int copy(int object) {
        if (outside(object, objects)) return BAD;
        List<Integer> order = new ArrayList<>(List.of(object));
        for (int k = 0; k < order.size(); k++) {
            for (int each : held(order.get(k))) if (!order.contains(each)) order.add(each);
        }
        int first = objects.size();
        if (first + order.size() > 60) return FULL;
        for (int each : order) {
            O made = new O();
            made.shape = shapeOf(each);
            for (int f = 0; f < objects.get(each).fields.size(); f++) {
                boolean leads = field(each, f).kind == 1 || field(each, f).kind == 2;
                List<Integer> value = new ArrayList<>(value(each, f));
                if (leads) value.replaceAll(to -> order.contains(to) ? first + order.indexOf(to) : to);
                made.fields.add(List.copyOf(value));
            }
            objects.add(made);
        }
        return first;
    }

    public int alike(int object, int other) {
        if (outside(object, objects) || outside(other, objects)) return BAD;
        int n = objects.size();
        boolean[][] like = new boolean[n][n];
        for (boolean[] row : like) Arrays.fill(row, true);
        boolean changed = true;
        while (changed) {
            changed = false;
            for (int a = 0; a < n; a++) {
                for (int b = 0; b < n; b++) {
                    if (!like[a][b] || likeByFields(a, b, like)) continue;
                    like[a][b] = false;
                    changed = true;
                }
            }
        }
        return like[object][other] ? 1 : 0;
    }

    private boolean likeByFields(int a, int b, boolean[][] like) {
        if (a == b) return true;
        if (shapeOf(a) != shapeOf(b)) return false;
        for (int f = 0; f < objects.get(a).fields.size(); f++) {
            List<Integer> one = value(a, f);
            List<Integer> two = value(b, f);
            if (field(a, f).kind == 0 && !one.equals(two)) return false;
            if (one.size() != two.size()) return false;
            if (field(a, f).kind == 0) continue;
            for (int p = 0; p < one.size(); p++) if (!like[one.get(p)][two.get(p)]) return false;
        }
        return true;
    }

    // ---- watches

    public int watch(int shape, int field, boolean veto, int limit) {
        if (outside(shape, shapes) || outside(field, shapes.get(shape).fields)) return BAD;
        int kind = shapes.get(shape).fields.get(field).kind;
        if (kind == 3 || veto && kind != 0) return BAD;
        if (watches.size() == 10) return FULL;
        watches.add(new Watcher(shape, field, veto, limit, new ArrayList<>()));
        return watches.size() - 1;
    }

    public int note(int watch, int k, int what) {
        if (outside(watch, watches) || what < 0 || what > 2) return BAD;
        return outside(k, watches.get(watch).notes) ? NONE : watches.get(watch).notes.get(k)[what];
    }

    public int lacks() {
        int lacking = 0;
        for (O o : objects) {
            for (int f = 0; f < o.fields.size(); f++) {
                if (shapes.get(o.shape).fields.get(f).required && o.fields.get(f).isEmpty()) lacking++;
            }
        }
        return lacking;
    }

    public int count(int what) {
        int group = open == null ? NONE : open.size();
        int[] all = {shapes.size(), objects.size(), paths.size(), done.size(), undone.size(), group, watches.size()};
        return what < 0 || what > 6 ? BAD : all[what];
    }

    public long digest() {
        long h = 71;
        for (int o = 0; o < objects.size(); o++) {
            h = 31 * h + shapeOf(o);
            for (int f = 0; f < objects.get(o).fields.size(); f++) {
                h = 31 * h + get(o, f);
                if (field(o, f).kind == 2) for (int each : value(o, f)) h = 31 * h + each;
            }
        }
        return (h * 31 + done.size()) * 31 + undone.size();
    }
}
