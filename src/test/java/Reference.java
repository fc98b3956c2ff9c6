import java.math.BigInteger;
import java.util.ArrayDeque;
import java.util.ArrayList;
import java.util.Arrays;
import java.util.Collections;
import java.util.Comparator;
import java.util.Deque;
import java.util.HashMap;
import java.util.HashSet;
import java.util.List;
import java.util.Map;
import java.util.NoSuchElementException;
import java.util.Set;
import java.util.TreeSet;
import java.util.regex.Matcher;
import java.util.regex.Pattern;

/**
 * The document's answers by other means than the program's: the triangulation is wrapped triangle by
 * triangle from a hull edge, and of points on one circle the one with the greater number counts as
 * lifted by a weight that outweighs those of all lesser numbers.
 */
final class Reference {
    private static final Pattern INPUT =
            Pattern.compile("[0-9]{1,3}[,-][0-9]{1,3}(;[0-9]{1,3}[,-][0-9]{1,3})*");

    private List<int[]> points = new ArrayList<>();
    private List<int[]> constraints = new ArrayList<>();
    private final StringBuilder input = new StringBuilder();
    private final Deque<List<List<int[]>>> past = new ArrayDeque<>();
    private List<List<int[]>> saved = null;

    // ---- points and constraints

    public int addPoint(int x, int y) {
        range(x, y);
        newPoint(x, y);
        change();
        points.add(new int[] {x, y});
        return points.size() - 1;
    }

    public int removePoint(int point) {
        point(point);
        loose(point);
        change();
        points.remove(point);
        List<int[]> renumbered = new ArrayList<>();
        for (int[] c : constraints) {
            renumbered.add(new int[] {c[0] > point ? c[0] - 1 : c[0], c[1] > point ? c[1] - 1 : c[1]});
        }
        constraints = renumbered;
        return points.size();
    }

    public boolean movePoint(int point, int x, int y) {
        point(point);
        range(x, y);
        loose(point);
        for (int p = 0; p < points.size(); p++) {
            unsupported(p != point && points.get(p)[0] == x && points.get(p)[1] == y);
        }
        offConstraints(x, y);
        boolean changes = points.get(point)[0] != x || points.get(point)[1] != y;
        change();
        points.set(point, new int[] {x, y});
        return changes;
    }

    public int pointCount() {
        return points.size();
    }

    public int coordinate(int point, int axis) {
        point(point);
        argument(axis != 0 && axis != 1);
        return points.get(point)[axis];
    }

    public int addConstraint(int a, int b) {
        point(a);
        point(b);
        argument(a == b);
        state(constraints.size() == 10);
        for (int[] c : constraints) {
            unsupported(c[0] == a && c[1] == b || c[0] == b && c[1] == a);
            unsupported(cross(points.get(a), points.get(b), points.get(c[0]), points.get(c[1])));
        }
        for (int[] p : points) {
            unsupported(between(points.get(a), points.get(b), p));
        }
        change();
        constraints.add(new int[] {Math.min(a, b), Math.max(a, b)});
        return constraints.size() - 1;
    }

    public int removeConstraint(int constraint) {
        index(constraint, constraints.size());
        change();
        constraints.remove(constraint);
        return constraints.size();
    }

    public int constraintCount() {
        return constraints.size();
    }

    public int constraintEnd(int constraint, int which) {
        index(constraint, constraints.size());
        argument(which != 0 && which != 1);
        return constraints.get(constraint)[which];
    }

    // ---- text

    public int feed(char character) {
        state(input.length() == 60);
        input.append(character);
        return input.length();
    }

    public int readInput() {
        String text = input.toString();
        input.setLength(0);
        for (int i = 0; i < text.length(); i++) {
            Matcher matcher = INPUT.matcher(text.substring(0, i + 1));
            if (!matcher.matches() && !matcher.hitEnd()) {
                return -100 - i;
            }
        }
        if (!INPUT.matcher(text).matches()) {
            return -100 - text.length();
        }
        int added = 0;
        for (String entry : text.split(";")) {
            String[] numbers = entry.split("[,-]");
            try {
                if (entry.contains(",")) {
                    addPoint(Integer.parseInt(numbers[0]), Integer.parseInt(numbers[1]));
                } else {
                    addConstraint(Integer.parseInt(numbers[0]), Integer.parseInt(numbers[1]));
                }
            } catch (RuntimeException refused) {
                return added;
            }
            added++;
        }
        return added;
    }

    // ---- the triangulation

    public int triangleCount() {
        return triangles().size();
    }

    public int corner(int triangle, int which) {
        index(triangle, triangles().size());
        argument(which < 0 || which > 2);
        return triangles().get(triangle)[which];
    }

    public int beyond(int triangle, int which) {
        List<int[]> all = triangles();
        index(triangle, all.size());
        argument(which < 0 || which > 2);
        int a = all.get(triangle)[which];
        int b = all.get(triangle)[(which + 1) % 3];
        for (int t = 0; t < all.size(); t++) {
            if (t != triangle && has(all.get(t), a) && has(all.get(t), b)) {
                return t;
            }
        }
        return -1;
    }

    public int edgeCount() {
        return edges().size();
    }

    public int edgeEnd(int edge, int which) {
        index(edge, edges().size());
        argument(which != 0 && which != 1);
        return edges().get(edge)[which];
    }

    public int edgeBetween(int a, int b) {
        point(a);
        point(b);
        List<int[]> all = edges();
        for (int e = 0; e < all.size(); e++) {
            if (has(all.get(e), a) && has(all.get(e), b) && a != b) {
                return e;
            }
        }
        throw new NoSuchElementException();
    }

    public int degree(int point) {
        point(point);
        return neighbours(point).size();
    }

    public int neighbour(int point, int index) {
        point(point);
        List<Integer> all = new ArrayList<>(neighbours(point));
        element(index < 0 || index >= all.size());
        return all.get(index);
    }

    public int hullSize() {
        return hull().size();
    }

    public int hullPoint(int index) {
        List<Integer> all = hull();
        index(index, all.size());
        return all.get(index);
    }

    public int twiceArea(int triangle) {
        index(triangle, triangles().size());
        int[] t = triangles().get(triangle);
        return turned(points.get(t[0]), points.get(t[1]), points.get(t[2]));
    }

    public double areaShare(int triangle) {
        int area = twiceArea(triangle);
        int[] origin = points.get(0);
        int whole = 0;
        List<Integer> round = hull();
        for (int i = 0; i < round.size(); i++) {
            whole += turned(origin, points.get(round.get(i)),
                    points.get(round.get((i + 1) % round.size())));
        }
        return (double) area / (double) whole;
    }

    public double meanDegree() {
        element(points.isEmpty());
        return (double) (edges().size() * 2) / (double) points.size();
    }

    public int squaredLength(int what) {
        argument(what < 0 || what > 2);
        List<int[]> all = new ArrayList<>(edges());
        element(all.isEmpty());
        all.sort(Comparator.comparingInt(this::length));
        if (what < 2) {
            return length(all.get(what == 0 ? 0 : all.size() - 1));
        }
        int[] group = new int[points.size()];
        for (int i = 0; i < group.length; i++) {
            group[i] = i;
        }
        int sum = 0;
        for (int[] e : all) {
            int from = group[e[0]];
            int to = group[e[1]];
            if (from != to) {
                sum += length(e);
                for (int i = 0; i < group.length; i++) {
                    group[i] = group[i] == from ? to : group[i];
                }
            }
        }
        return sum;
    }

    // ---- tests

    public int turn(int a, int b, int c) {
        point(a);
        point(b);
        point(c);
        return Integer.signum(turned(points.get(a), points.get(b), points.get(c)));
    }

    public int inCircle(int a, int b, int c, int d) {
        point(a);
        point(b);
        point(c);
        point(d);
        if (turn(a, b, c) == 0) {
            throw new ArithmeticException();
        }
        return inside(points.get(a), points.get(b), points.get(c), points.get(d));
    }

    public boolean isGood(int edge) {
        index(edge, edges().size());
        Boolean good = good(edges().get(edge));
        unsupported(good == null);
        return good;
    }

    public int forcedConstraints() {
        int count = 0;
        for (int[] c : constraints) {
            if (Boolean.FALSE.equals(good(c))) {
                count++;
            }
        }
        return count;
    }

    // ---- location

    public int kindAt(int x, int y) {
        range(x, y);
        return place(x, y)[0];
    }

    public int numberAt(int x, int y) {
        range(x, y);
        int[] place = place(x, y);
        element(place[0] == 0);
        return place[1];
    }

    public int walk(int triangle, int x, int y, boolean result) {
        index(triangle, triangles().size());
        range(x, y);
        int here = triangle;
        for (int steps = 0; true; steps++) {
            int[] t = triangles().get(here);
            int which = 0;
            while (which < 3 && turned(points.get(t[which]), points.get(t[(which + 1) % 3]),
                    new int[] {x, y}) >= 0) {
                which++;
            }
            if (which == 3) {
                return result ? here : steps;
            }
            int next = beyond(here, which);
            if (next < 0 || steps == 50) {
                return result ? -1 : steps;
            }
            here = next;
        }
    }

    // ---- what changes would do

    public int cavity(int x, int y) {
        range(x, y);
        newPoint(x, y);
        List<int[]> more = new ArrayList<>(points);
        more.add(new int[] {x, y});
        Set<String> then = names(triangulate(more, constraints), more);
        Set<String> now = names(triangles(), points);
        now.removeAll(then);
        return now.size();
    }

    public int hole(int point) {
        point(point);
        loose(point);
        List<int[]> fewer = new ArrayList<>(points);
        fewer.remove(point);
        List<int[]> renumbered = new ArrayList<>();
        for (int[] c : constraints) {
            renumbered.add(new int[] {c[0] - (c[0] > point ? 1 : 0), c[1] - (c[1] > point ? 1 : 0)});
        }
        Set<String> then = names(triangulate(fewer, renumbered), fewer);
        then.removeAll(names(triangles(), points));
        return then.size();
    }

    public int crossings(int a, int b) {
        point(a);
        point(b);
        argument(a == b);
        int count = 0;
        int[] p = points.get(a);
        int[] q = points.get(b);
        for (int[] e : edges()) {
            int[] r = points.get(e[0]);
            int[] s = points.get(e[1]);
            boolean along = turned(p, q, r) == 0 && turned(p, q, s) == 0
                    && within(p, q, r) && within(p, q, s);
            if (along || cross(p, q, r, s)) {
                count++;
            }
        }
        return count;
    }

    public int effect(int constraint) {
        index(constraint, constraints.size());
        List<int[]> fewer = new ArrayList<>(constraints);
        fewer.remove(constraint);
        Set<String> then = new HashSet<>();
        for (int[] e : edgesOf(triangulate(points, fewer))) {
            then.add(Arrays.toString(e));
        }
        int count = 0;
        for (int[] e : edges()) {
            if (!then.contains(Arrays.toString(e))) {
                count++;
            }
        }
        return count;
    }

    // ---- undo and snapshot

    public int undo() {
        state(past.isEmpty());
        take(past.removeLast());
        return past.size();
    }

    public int save() {
        saved = kept();
        return points.size();
    }

    public int restore() {
        state(saved == null);
        take(saved);
        past.clear();
        return points.size();
    }

    private List<List<int[]>> kept() {
        return List.of(new ArrayList<>(points), new ArrayList<>(constraints));
    }

    private void take(List<List<int[]>> state) {
        points = new ArrayList<>(state.get(0));
        constraints = new ArrayList<>(state.get(1));
    }

    private void change() {
        past.addLast(kept());
        if (past.size() > 12) {
            past.removeFirst();
        }
    }

    // ---- the triangulation by wrapping

    private List<int[]> triangles() {
        return triangulate(points, constraints);
    }

    private static List<int[]> triangulate(List<int[]> ps, List<int[]> cs) {
        Map<String, int[]> found = new HashMap<>();
        Deque<int[]> open = new ArrayDeque<>();
        Set<String> seen = new HashSet<>();
        int[] first = hullEdge(ps);
        if (first != null) {
            open.add(first);
        }
        while (!open.isEmpty()) {
            int[] edge = open.remove();
            if (!seen.add(Arrays.toString(edge))) {
                continue;
            }
            int c = apex(ps, cs, edge[0], edge[1]);
            if (c < 0) {
                continue;
            }
            int[] t = lowestFirst(edge[0], edge[1], c);
            found.put(Arrays.toString(t), t);
            for (int i = 0; i < 3; i++) {
                open.add(new int[] {t[(i + 1) % 3], t[i]});
                open.add(new int[] {t[i], t[(i + 1) % 3]});
            }
        }
        List<int[]> all = new ArrayList<>(found.values());
        all.sort(Arrays::compare);
        return all;
    }

    private static int[] hullEdge(List<int[]> ps) {
        for (int a = 0; a < ps.size(); a++) {
            for (int b = 0; b < ps.size(); b++) {
                boolean left = false;
                boolean bad = a == b;
                for (int[] p : ps) {
                    int turned = turned(ps.get(a), ps.get(b), p);
                    left |= turned > 0;
                    bad |= turned < 0 || between(ps.get(a), ps.get(b), p);
                }
                if (left && !bad) {
                    return new int[] {a, b};
                }
            }
        }
        return null;
    }

    private static int apex(List<int[]> ps, List<int[]> cs, int a, int b) {
        int best = -1;
        for (int c = 0; c < ps.size(); c++) {
            if (turned(ps.get(a), ps.get(b), ps.get(c)) > 0 && open(ps, cs, a, b, c)
                    && (best < 0 || liftedInside(ps, a, b, best, c))) {
                best = c;
            }
        }
        return best;
    }

    private static boolean open(List<int[]> ps, List<int[]> cs, int a, int b, int c) {
        int[] p = ps.get(a);
        int[] q = ps.get(b);
        int[] r = ps.get(c);
        for (int i = 0; i < ps.size(); i++) {
            int[] s = ps.get(i);
            if (i != a && i != b && i != c && turned(p, q, s) >= 0 && turned(q, r, s) >= 0
                    && turned(r, p, s) >= 0) {
                return false;
            }
        }
        for (int[] e : cs) {
            int[] s = ps.get(e[0]);
            int[] t = ps.get(e[1]);
            if (cross(p, r, s, t) && !same(a, c, e) || cross(q, r, s, t) && !same(b, c, e)) {
                return false;
            }
        }
        return true;
    }

    private static boolean liftedInside(List<int[]> ps, int a, int b, int c, int d) {
        BigInteger sum = BigInteger.ZERO;
        int[] four = {a, b, c, d};
        for (int i = 0; i < 4; i++) {
            int[] rest = new int[3];
            for (int j = 0, k = 0; j < 4; j++) {
                if (j != i) {
                    rest[k++] = four[j];
                }
            }
            BigInteger part = lift(ps, four[i]).multiply(BigInteger.valueOf(
                    turned(ps.get(rest[0]), ps.get(rest[1]), ps.get(rest[2]))));
            sum = i % 2 == 0 ? sum.add(part) : sum.subtract(part);
        }
        return sum.signum() > 0;
    }

    private static BigInteger lift(List<int[]> ps, int p) {
        int[] q = ps.get(p);
        return BigInteger.valueOf((long) q[0] * q[0] + (long) q[1] * q[1]).shiftLeft(24 * 18)
                .add(BigInteger.ONE.shiftLeft(24 * p));
    }

    private static int[] lowestFirst(int a, int b, int c) {
        if (a < b && a < c) {
            return new int[] {a, b, c};
        }
        return b < c ? new int[] {b, c, a} : new int[] {c, a, b};
    }

    private List<int[]> edges() {
        return edgesOf(triangles());
    }

    private List<int[]> edgesOf(List<int[]> triangles) {
        TreeSet<int[]> all = new TreeSet<>(Arrays::compare);
        for (int[] t : triangles) {
            for (int i = 0; i < 3; i++) {
                int a = t[i];
                int b = t[(i + 1) % 3];
                all.add(new int[] {Math.min(a, b), Math.max(a, b)});
            }
        }
        if (triangles.isEmpty()) {
            List<Integer> line = new ArrayList<>();
            for (int p = 0; p < points.size(); p++) {
                line.add(p);
            }
            line.sort((p, q) -> Arrays.compare(points.get(p), points.get(q)));
            for (int i = 0; i + 1 < line.size(); i++) {
                int a = line.get(i);
                int b = line.get(i + 1);
                all.add(new int[] {Math.min(a, b), Math.max(a, b)});
            }
        }
        return new ArrayList<>(all);
    }

    private TreeSet<Integer> neighbours(int point) {
        TreeSet<Integer> all = new TreeSet<>();
        for (int[] e : edges()) {
            if (has(e, point)) {
                all.add(e[0] + e[1] - point);
            }
        }
        return all;
    }

    // Walks along the hull by position, independent of the triangles.
    private List<Integer> hull() {
        List<Integer> round = new ArrayList<>();
        int[] edge = hullEdge(points);
        if (edge == null) {
            return round;
        }
        int here = edge[0];
        do {
            round.add(here);
            here = hullNext(here);
        } while (here != edge[0]);
        int lowest = round.indexOf(Collections.min(round));
        Collections.rotate(round, -lowest);
        return round;
    }

    private int hullNext(int a) {
        for (int b = 0; b < points.size(); b++) {
            boolean bad = a == b;
            for (int[] p : points) {
                bad |= turned(points.get(a), points.get(b), p) < 0
                        || between(points.get(a), points.get(b), p);
            }
            if (!bad) {
                return b;
            }
        }
        throw new AssertionError("a hull without end");
    }

    private Boolean good(int[] edge) {
        List<Integer> others = new ArrayList<>();
        for (int[] t : triangles()) {
            if (has(t, edge[0]) && has(t, edge[1])) {
                others.add(t[0] + t[1] + t[2] - edge[0] - edge[1]);
            }
        }
        if (others.size() != 2) {
            return null;
        }
        int where = inside(points.get(edge[0]), points.get(edge[1]), points.get(others.get(0)),
                points.get(others.get(1)));
        int greatest = Math.max(Math.max(edge[0], edge[1]), Collections.max(others));
        return where < 0 || where == 0 && edge[0] != greatest && edge[1] != greatest;
    }

    private int[] place(int x, int y) {
        int[] at = {x, y};
        for (int p = 0; p < points.size(); p++) {
            if (Arrays.equals(points.get(p), at)) {
                return new int[] {1, p};
            }
        }
        List<int[]> lines = edges();
        for (int e = 0; e < lines.size(); e++) {
            if (between(points.get(lines.get(e)[0]), points.get(lines.get(e)[1]), at)) {
                return new int[] {2, e};
            }
        }
        List<int[]> all = triangles();
        for (int t = 0; t < all.size(); t++) {
            int[] p = points.get(all.get(t)[0]);
            int[] q = points.get(all.get(t)[1]);
            int[] r = points.get(all.get(t)[2]);
            if (turned(p, q, at) > 0 && turned(q, r, at) > 0 && turned(r, p, at) > 0) {
                return new int[] {3, t};
            }
        }
        return new int[] {0, -1};
    }

    private static Set<String> names(List<int[]> triangles, List<int[]> ps) {
        Set<String> all = new HashSet<>();
        for (int[] t : triangles) {
            TreeSet<String> name = new TreeSet<>();
            for (int p : t) {
                name.add(Arrays.toString(ps.get(p)));
            }
            all.add(name.toString());
        }
        return all;
    }

    // ---- geometry

    private static int turned(int[] p, int[] q, int[] r) {
        return (q[0] - p[0]) * (r[1] - p[1]) - (q[1] - p[1]) * (r[0] - p[0]);
    }

    private static boolean within(int[] p, int[] q, int[] r) {
        return Math.min(p[0], q[0]) <= r[0] && r[0] <= Math.max(p[0], q[0])
                && Math.min(p[1], q[1]) <= r[1] && r[1] <= Math.max(p[1], q[1]);
    }

    private static boolean between(int[] p, int[] q, int[] r) {
        return turned(p, q, r) == 0 && within(p, q, r) && !Arrays.equals(p, r)
                && !Arrays.equals(q, r);
    }

    private static boolean cross(int[] p, int[] q, int[] r, int[] s) {
        if (turned(p, q, r) == 0 && turned(p, q, s) == 0) {
            return between(p, q, r) || between(p, q, s) || between(r, s, p) || between(r, s, q)
                    || Arrays.equals(p, r) && Arrays.equals(q, s)
                    || Arrays.equals(p, s) && Arrays.equals(q, r);
        }
        return (long) turned(p, q, r) * turned(p, q, s) < 0
                && (long) turned(r, s, p) * turned(r, s, q) < 0;
    }

    // By the centre of the circle, whose coordinates are fractions over twice the turn.
    private static int inside(int[] a, int[] b, int[] c, int[] d) {
        long n = 2L * turned(a, b, c);
        long aa = (long) a[0] * a[0] + (long) a[1] * a[1];
        long bb = (long) b[0] * b[0] + (long) b[1] * b[1];
        long cc = (long) c[0] * c[0] + (long) c[1] * c[1];
        long ux = aa * (b[1] - c[1]) + bb * (c[1] - a[1]) + cc * (a[1] - b[1]);
        long uy = aa * (c[0] - b[0]) + bb * (a[0] - c[0]) + cc * (b[0] - a[0]);
        return Long.compare(fromCentre(a, n, ux, uy), fromCentre(d, n, ux, uy));
    }

    private static long fromCentre(int[] p, long n, long ux, long uy) {
        return (n * p[0] - ux) * (n * p[0] - ux) + (n * p[1] - uy) * (n * p[1] - uy);
    }

    private int length(int[] edge) {
        int[] p = points.get(edge[0]);
        int[] q = points.get(edge[1]);
        return (p[0] - q[0]) * (p[0] - q[0]) + (p[1] - q[1]) * (p[1] - q[1]);
    }

    private static boolean has(int[] row, int value) {
        for (int cell : row) {
            if (cell == value) {
                return true;
            }
        }
        return false;
    }

    private static boolean same(int a, int b, int[] e) {
        return e[0] == Math.min(a, b) && e[1] == Math.max(a, b);
    }

    // ---- refusals

    private void range(int x, int y) {
        argument(x < 0 || x > 100 || y < 0 || y > 100);
    }

    private void newPoint(int x, int y) {
        state(points.size() == 16);
        for (int[] p : points) {
            unsupported(p[0] == x && p[1] == y);
        }
        offConstraints(x, y);
    }

    private void offConstraints(int x, int y) {
        for (int[] c : constraints) {
            unsupported(between(points.get(c[0]), points.get(c[1]), new int[] {x, y}));
        }
    }

    private void loose(int point) {
        for (int[] c : constraints) {
            state(has(c, point));
        }
    }

    private void point(int point) {
        index(point, points.size());
    }

    private static void index(int index, int size) {
        if (index < 0 || index >= size) {
            throw new IndexOutOfBoundsException();
        }
    }

    private static void argument(boolean wrong) {
        if (wrong) {
            throw new IllegalArgumentException();
        }
    }

    private static void state(boolean wrong) {
        if (wrong) {
            throw new IllegalStateException();
        }
    }

    private static void unsupported(boolean wrong) {
        if (wrong) {
            throw new UnsupportedOperationException();
        }
    }

    private static void element(boolean wrong) {
        if (wrong) {
            throw new NoSuchElementException();
        }
    }
}
