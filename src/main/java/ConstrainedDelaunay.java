import java.util.NoSuchElementException;

/**
 * A constrained Delaunay triangulation of at most 16 points with integer coordinates.
 *
 * The points and constraints (Plan) are the state; they alone decide the triangulation, so every
 * change draws it anew (Mesh). What a single change would do is answered by drawing a second mesh.
 */
public final class ConstrainedDelaunay {
    private static final int NONE = -1;
    private static final int MOST_POINTS = 16;
    private static final int MOST_CONSTRAINTS = 10;
    private static final int MOST_EDGES = 42;
    private static final int MOST_TRIANGLES = 27;
    private static final int GREATEST_COORDINATE = 100;
    private static final int MOST_CHARACTERS = 60;
    private static final int MOST_ENTRIES = 15;
    private static final int MOST_DIGITS = 3;
    private static final int MOST_CHANGES = 12;
    private static final int MOST_STEPS = 50;
    private static final int ERROR_BASE = -100;
    // An edge that was flipped away never comes back, so 120 pairs of points bound the rounds.
    private static final int MOST_ROUNDS = 1000;

    private static final int KIND_OUTSIDE = 0;
    private static final int KIND_POINT = 1;
    private static final int KIND_EDGE = 2;
    private static final int KIND_TRIANGLE = 3;

    private static final int LENGTH_LEAST = 0;
    private static final int LENGTH_GREATEST = 1;
    private static final int LENGTH_TREE = 2;

    private final Plan plan;
    private final Mesh mesh;
    private final Plan trialPlan;
    private final Mesh trialMesh;
    private final Plan savedPlan;
    private final History history;
    private final Input input;
    private boolean hasSaved;

    public ConstrainedDelaunay() {
        plan = new Plan();
        mesh = new Mesh(plan);
        trialPlan = new Plan();
        trialMesh = new Mesh(trialPlan);
        savedPlan = new Plan();
        history = new History();
        input = new Input();
        hasSaved = false;
    }

    // ---- points

    public int addPoint(int x, int y)
            throws IllegalArgumentException, IllegalStateException, UnsupportedOperationException {
        requirePosition(x, y);
        requireNewPoint(x, y);
        history.remember(plan);
        plan.appendPoint(x, y);
        mesh.draw();
        return plan.points() - 1;
    }

    public int removePoint(int point) throws IndexOutOfBoundsException, IllegalStateException {
        requirePoint(point);
        requireLoosePoint(point);
        history.remember(plan);
        plan.dropPoint(point);
        mesh.draw();
        return plan.points();
    }

    public boolean movePoint(int point, int x, int y)
            throws IndexOutOfBoundsException, IllegalArgumentException, IllegalStateException,
            UnsupportedOperationException {
        requirePoint(point);
        requirePosition(x, y);
        requireLoosePoint(point);
        int present = plan.pointAt(x, y);
        if (present != NONE && present != point || plan.constraintCovers(x, y)) {
            throw new UnsupportedOperationException("the position is taken");
        }
        history.remember(plan);
        plan.placePoint(point, x, y);
        mesh.draw();
        return present != point;
    }

    public int pointCount() {
        return plan.points();
    }

    public int coordinate(int point, int axis)
            throws IndexOutOfBoundsException, IllegalArgumentException {
        requirePoint(point);
        requireBit(axis);
        return axis == 0 ? plan.xOf(point) : plan.yOf(point);
    }

    // ---- constraints

    public int addConstraint(int a, int b)
            throws IndexOutOfBoundsException, IllegalArgumentException, IllegalStateException,
            UnsupportedOperationException {
        requirePoint(a);
        requirePoint(b);
        requireDifferent(a, b);
        if (plan.constraints() >= MOST_CONSTRAINTS) {
            throw new IllegalStateException("there are 10 constraints");
        }
        if (!plan.admitsSegment(a, b)) {
            throw new UnsupportedOperationException("the segment is taken, met or crossed");
        }
        history.remember(plan);
        plan.appendConstraint(a, b);
        mesh.draw();
        return plan.constraints() - 1;
    }

    public int removeConstraint(int constraint) throws IndexOutOfBoundsException {
        requireConstraint(constraint);
        history.remember(plan);
        plan.dropConstraint(constraint);
        mesh.draw();
        return plan.constraints();
    }

    public int constraintCount() {
        return plan.constraints();
    }

    public int constraintEnd(int constraint, int which)
            throws IndexOutOfBoundsException, IllegalArgumentException {
        requireConstraint(constraint);
        requireBit(which);
        return which == 0 ? plan.lowEnd(constraint) : plan.highEnd(constraint);
    }

    // ---- text

    public int feed(char character) throws IllegalStateException {
        if (input.length() >= MOST_CHARACTERS) {
            throw new IllegalStateException("the input has 60 characters");
        }
        input.append(character);
        return input.length();
    }

    public int readInput() {
        int error = input.parse();
        int added = 0;
        while (error == NONE && added < input.entries() && addEntry(added)) {
            added++;
        }
        input.clear();
        mesh.draw();
        return error == NONE ? added : ERROR_BASE - error;
    }

    // ---- the triangulation

    public int triangleCount() {
        return mesh.triangles();
    }

    public int corner(int triangle, int which)
            throws IndexOutOfBoundsException, IllegalArgumentException {
        requireTriangle(triangle);
        requireCorner(which);
        return mesh.cornerOf(triangle, which);
    }

    public int beyond(int triangle, int which)
            throws IndexOutOfBoundsException, IllegalArgumentException {
        requireTriangle(triangle);
        requireCorner(which);
        return mesh.triangleAcross(triangle, which);
    }

    public int edgeCount() {
        return mesh.edges();
    }

    public int edgeEnd(int edge, int which)
            throws IndexOutOfBoundsException, IllegalArgumentException {
        requireEdge(edge);
        requireBit(which);
        return which == 0 ? mesh.lowEnd(edge) : mesh.highEnd(edge);
    }

    public int edgeBetween(int a, int b) throws IndexOutOfBoundsException, NoSuchElementException {
        requirePoint(a);
        requirePoint(b);
        int edge = mesh.edgeOf(a, b);
        if (edge == NONE) {
            throw new NoSuchElementException("there is no edge between these points");
        }
        return edge;
    }

    public int degree(int point) throws IndexOutOfBoundsException {
        requirePoint(point);
        return mesh.degreeOf(point);
    }

    public int neighbour(int point, int index)
            throws IndexOutOfBoundsException, NoSuchElementException {
        requirePoint(point);
        if (index < 0 || index >= mesh.degreeOf(point)) {
            throw new NoSuchElementException("there is no such index");
        }
        return mesh.neighbourOf(point, index);
    }

    public int hullSize() {
        return mesh.hullPoints();
    }

    public int hullPoint(int index) throws IndexOutOfBoundsException {
        if (index < 0 || index >= mesh.hullPoints()) {
            throw new IndexOutOfBoundsException("there is no such index");
        }
        return mesh.hullPointAt(index);
    }

    public int twiceArea(int triangle) throws IndexOutOfBoundsException {
        requireTriangle(triangle);
        return mesh.areaOf(triangle);
    }

    public double areaShare(int triangle) throws IndexOutOfBoundsException {
        requireTriangle(triangle);
        int whole = mesh.hullArea();
        return whole == 0 ? 0.0 : (double) mesh.areaOf(triangle) / (double) whole;
    }

    public double meanDegree() throws NoSuchElementException {
        int points = plan.points();
        if (points == 0) {
            throw new NoSuchElementException("there are no points");
        }
        return (double) (2 * mesh.edges()) / (double) points;
    }

    public int squaredLength(int what) throws IllegalArgumentException, NoSuchElementException {
        if (what < LENGTH_LEAST || what > LENGTH_TREE) {
            throw new IllegalArgumentException("there is no such length");
        }
        if (mesh.edges() == 0) {
            throw new NoSuchElementException("there are no edges");
        }
        if (what == LENGTH_LEAST) {
            return mesh.leastLength();
        }
        return what == LENGTH_GREATEST ? mesh.greatestLength() : mesh.leastTree();
    }

    // ---- tests

    public int turn(int a, int b, int c) throws IndexOutOfBoundsException {
        requirePoint(a);
        requirePoint(b);
        requirePoint(c);
        return plan.side(a, b, c);
    }

    public int inCircle(int a, int b, int c, int d)
            throws IndexOutOfBoundsException, ArithmeticException {
        requirePoint(a);
        requirePoint(b);
        requirePoint(c);
        requirePoint(d);
        if (plan.side(a, b, c) == 0) {
            throw new ArithmeticException("three points on a line have no circle");
        }
        return plan.circleSide(a, b, c, d);
    }

    public boolean isGood(int edge) throws IndexOutOfBoundsException, UnsupportedOperationException {
        requireEdge(edge);
        int low = mesh.lowEnd(edge);
        int high = mesh.highEnd(edge);
        if (!mesh.isInner(low, high)) {
            throw new UnsupportedOperationException("this is no inner edge");
        }
        return mesh.passesCircle(low, high);
    }

    public int forcedConstraints() {
        int forced = 0;
        for (int i = 0; i < plan.constraints(); i++) {
            int low = plan.lowEnd(i);
            int high = plan.highEnd(i);
            if (mesh.isInner(low, high) && !mesh.passesCircle(low, high)) {
                forced++;
            }
        }
        return forced;
    }

    // ---- location

    public int kindAt(int x, int y) throws IllegalArgumentException {
        requirePosition(x, y);
        return kindOf(x, y);
    }

    public int numberAt(int x, int y) throws IllegalArgumentException, NoSuchElementException {
        requirePosition(x, y);
        switch (kindOf(x, y)) {
            case KIND_POINT:
                return plan.pointAt(x, y);
            case KIND_EDGE:
                return mesh.edgeAt(x, y);
            case KIND_TRIANGLE:
                return mesh.triangleAt(x, y);
            default:
                throw new NoSuchElementException("the position is outside");
        }
    }

    public int walk(int triangle, int x, int y, boolean result)
            throws IndexOutOfBoundsException, IllegalArgumentException {
        requireTriangle(triangle);
        requirePosition(x, y);
        int here = triangle;
        int steps = 0;
        int exit = mesh.exitTowards(here, x, y);
        while (steps < MOST_STEPS && exit != NONE) {
            int next = mesh.triangleAcross(here, exit);
            if (next == NONE) {
                break;
            }
            here = next;
            steps++;
            exit = mesh.exitTowards(here, x, y);
        }
        if (!result) {
            return steps;
        }
        return exit == NONE ? here : NONE;
    }

    // ---- what changes would do

    public int cavity(int x, int y)
            throws IllegalArgumentException, IllegalStateException, UnsupportedOperationException {
        requirePosition(x, y);
        requireNewPoint(x, y);
        trialPlan.copyFrom(plan);
        trialPlan.appendPoint(x, y);
        trialMesh.draw();
        int lost = 0;
        for (int t = 0; t < mesh.triangles(); t++) {
            if (!trialMesh.hasTriangle(mesh.cornerOf(t, 0), mesh.cornerOf(t, 1), mesh.cornerOf(t, 2))) {
                lost++;
            }
        }
        return lost;
    }

    public int hole(int point) throws IndexOutOfBoundsException, IllegalStateException {
        requirePoint(point);
        requireLoosePoint(point);
        trialPlan.copyFrom(plan);
        trialPlan.dropPoint(point);
        trialMesh.draw();
        int made = 0;
        for (int t = 0; t < trialMesh.triangles(); t++) {
            int a = numberBefore(trialMesh.cornerOf(t, 0), point);
            int b = numberBefore(trialMesh.cornerOf(t, 1), point);
            int c = numberBefore(trialMesh.cornerOf(t, 2), point);
            if (!mesh.hasTriangle(a, b, c)) {
                made++;
            }
        }
        return made;
    }

    public int crossings(int a, int b) throws IndexOutOfBoundsException, IllegalArgumentException {
        requirePoint(a);
        requirePoint(b);
        requireDifferent(a, b);
        int count = 0;
        for (int e = 0; e < mesh.edges(); e++) {
            if (mesh.edgeMeets(e, a, b)) {
                count++;
            }
        }
        return count;
    }

    public int effect(int constraint) throws IndexOutOfBoundsException {
        requireConstraint(constraint);
        trialPlan.copyFrom(plan);
        trialPlan.dropConstraint(constraint);
        trialMesh.draw();
        int lost = 0;
        for (int e = 0; e < mesh.edges(); e++) {
            if (trialMesh.edgeOf(mesh.lowEnd(e), mesh.highEnd(e)) == NONE) {
                lost++;
            }
        }
        return lost;
    }

    // ---- undo and snapshot

    public int undo() throws IllegalStateException {
        if (history.kept() == 0) {
            throw new IllegalStateException("there is no change that can be undone");
        }
        history.recallInto(plan);
        mesh.draw();
        return history.kept();
    }

    public int save() {
        savedPlan.copyFrom(plan);
        hasSaved = true;
        return plan.points();
    }

    public int restore() throws IllegalStateException {
        if (!hasSaved) {
            throw new IllegalStateException("nothing was saved");
        }
        plan.copyFrom(savedPlan);
        history.clear();
        mesh.draw();
        return plan.points();
    }

    // ---- what several calls ask for

    private void requirePoint(int point) {
        if (!plan.hasPoint(point)) {
            throw new IndexOutOfBoundsException("there is no such point");
        }
    }

    private void requireConstraint(int constraint) {
        if (constraint < 0 || constraint >= plan.constraints()) {
            throw new IndexOutOfBoundsException("there is no such constraint");
        }
    }

    private void requireTriangle(int triangle) {
        if (triangle < 0 || triangle >= mesh.triangles()) {
            throw new IndexOutOfBoundsException("there is no such triangle");
        }
    }

    private void requireEdge(int edge) {
        if (edge < 0 || edge >= mesh.edges()) {
            throw new IndexOutOfBoundsException("there is no such edge");
        }
    }

    private void requirePosition(int x, int y) {
        if (!isCoordinate(x) || !isCoordinate(y)) {
            throw new IllegalArgumentException("a coordinate is out of range");
        }
    }

    private void requireNewPoint(int x, int y) {
        if (plan.points() >= MOST_POINTS) {
            throw new IllegalStateException("there are 16 points");
        }
        if (!plan.admitsPoint(x, y)) {
            throw new UnsupportedOperationException("the position is taken");
        }
    }

    private void requireLoosePoint(int point) {
        if (plan.endsConstraint(point)) {
            throw new IllegalStateException("the point is an end of a constraint");
        }
    }

    private void requireDifferent(int a, int b) {
        if (a == b) {
            throw new IllegalArgumentException("the two points are the same");
        }
    }

    private void requireBit(int which) {
        if (which != 0 && which != 1) {
            throw new IllegalArgumentException("neither 0 nor 1");
        }
    }

    private void requireCorner(int which) {
        if (which < 0 || which > 2) {
            throw new IllegalArgumentException("a triangle has the corners 0 to 2");
        }
    }

    private static boolean isCoordinate(int value) {
        return value >= 0 && value <= GREATEST_COORDINATE;
    }

    private static int signOf(long value) {
        return value > 0 ? 1 : value < 0 ? -1 : 0;
    }

    private static int numberBefore(int point, int removed) {
        return point < removed ? point : point + 1;
    }

    private int kindOf(int x, int y) {
        if (plan.pointAt(x, y) != NONE) {
            return KIND_POINT;
        }
        if (mesh.edgeAt(x, y) != NONE) {
            return KIND_EDGE;
        }
        return mesh.triangleAt(x, y) != NONE ? KIND_TRIANGLE : KIND_OUTSIDE;
    }

    private boolean addEntry(int entry) {
        int first = input.firstOf(entry);
        int second = input.secondOf(entry);
        boolean segment = input.isSegment(entry);
        boolean allowed = segment
                ? plan.hasPoint(first) && plan.hasPoint(second) && first != second
                        && plan.constraints() < MOST_CONSTRAINTS
                        && plan.admitsSegment(first, second)
                : isCoordinate(first) && isCoordinate(second)
                        && plan.points() < MOST_POINTS && plan.admitsPoint(first, second);
        if (!allowed) {
            return false;
        }
        history.remember(plan);
        if (segment) {
            plan.appendConstraint(first, second);
        } else {
            plan.appendPoint(first, second);
        }
        return true;
    }

    /** A row of numbers; it looks at each index before it uses it. */
    private static final class Row {
        private final int[] cells;

        Row(int length) {
            cells = new int[Math.max(0, length)];
        }

        int get(int index) {
            return index >= 0 && index < cells.length ? cells[index] : 0;
        }

        void set(int index, int value) {
            if (index >= 0 && index < cells.length) {
                cells[index] = value;
            }
        }

        void closeGap(int index) {
            for (int i = Math.max(0, index); i < cells.length - 1; i++) {
                cells[i] = cells[i + 1];
            }
        }

        void copyFrom(Row other) {
            for (int i = 0; i < cells.length; i++) {
                cells[i] = other.get(i);
            }
        }
    }

    /** A number for each ordered pair of points; it looks at each index before it uses it. */
    private static final class Table {
        private final int[] cells;
        private final int blank;

        Table(int blank) {
            this.cells = new int[MOST_POINTS * MOST_POINTS];
            this.blank = blank;
        }

        void clear() {
            for (int i = 0; i < cells.length; i++) {
                cells[i] = blank;
            }
        }

        int get(int a, int b) {
            int slot = a * MOST_POINTS + b;
            return slot >= 0 && slot < cells.length ? cells[slot] : blank;
        }

        void set(int a, int b, int value) {
            int slot = a * MOST_POINTS + b;
            if (slot >= 0 && slot < cells.length) {
                cells[slot] = value;
            }
        }

        void turnRound(int a, int b, int c) {
            set(a, b, c);
            set(b, c, a);
            set(c, a, b);
        }
    }

    /** The points and the constraints, and the exact tests on them. */
    private static final class Plan {
        private final Row xs;
        private final Row ys;
        private final Row lows;
        private final Row highs;
        private int points;
        private int constraints;

        Plan() {
            xs = new Row(MOST_POINTS);
            ys = new Row(MOST_POINTS);
            lows = new Row(MOST_CONSTRAINTS);
            highs = new Row(MOST_CONSTRAINTS);
            points = 0;
            constraints = 0;
        }

        void copyFrom(Plan other) {
            xs.copyFrom(other.xs);
            ys.copyFrom(other.ys);
            lows.copyFrom(other.lows);
            highs.copyFrom(other.highs);
            points = other.points;
            constraints = other.constraints;
        }

        int points() {
            return points;
        }

        int constraints() {
            return constraints;
        }

        boolean hasPoint(int point) {
            return point >= 0 && point < points;
        }

        int xOf(int point) {
            return xs.get(point);
        }

        int yOf(int point) {
            return ys.get(point);
        }

        int lowEnd(int constraint) {
            return lows.get(constraint);
        }

        int highEnd(int constraint) {
            return highs.get(constraint);
        }

        int pointAt(int x, int y) {
            for (int p = 0; p < points; p++) {
                if (xs.get(p) == x && ys.get(p) == y) {
                    return p;
                }
            }
            return NONE;
        }

        boolean endsConstraint(int point) {
            for (int i = 0; i < constraints; i++) {
                if (lows.get(i) == point || highs.get(i) == point) {
                    return true;
                }
            }
            return false;
        }

        boolean isConstraint(int a, int b) {
            for (int i = 0; i < constraints; i++) {
                if (lows.get(i) == Math.min(a, b) && highs.get(i) == Math.max(a, b)) {
                    return true;
                }
            }
            return false;
        }

        boolean constraintCovers(int x, int y) {
            for (int i = 0; i < constraints; i++) {
                if (covers(lows.get(i), highs.get(i), x, y)) {
                    return true;
                }
            }
            return false;
        }

        boolean admitsPoint(int x, int y) {
            return pointAt(x, y) == NONE && !constraintCovers(x, y);
        }

        boolean admitsSegment(int a, int b) {
            if (isConstraint(a, b) || coversPoint(a, b)) {
                return false;
            }
            for (int i = 0; i < constraints; i++) {
                if (crosses(a, b, lows.get(i), highs.get(i))) {
                    return false;
                }
            }
            return true;
        }

        void appendPoint(int x, int y) {
            placePoint(points, x, y);
            points++;
        }

        void placePoint(int point, int x, int y) {
            xs.set(point, x);
            ys.set(point, y);
        }

        void dropPoint(int point) {
            xs.closeGap(point);
            ys.closeGap(point);
            points--;
            for (int i = 0; i < constraints; i++) {
                lows.set(i, numberAfter(lows.get(i), point));
                highs.set(i, numberAfter(highs.get(i), point));
            }
        }

        private static int numberAfter(int point, int removed) {
            return point > removed ? point - 1 : point;
        }

        void appendConstraint(int a, int b) {
            lows.set(constraints, Math.min(a, b));
            highs.set(constraints, Math.max(a, b));
            constraints++;
        }

        void dropConstraint(int constraint) {
            lows.closeGap(constraint);
            highs.closeGap(constraint);
            constraints--;
        }

        int twiceSignedArea(int a, int b, int x, int y) {
            int ax = xs.get(a);
            int ay = ys.get(a);
            return (xs.get(b) - ax) * (y - ay) - (ys.get(b) - ay) * (x - ax);
        }

        int side(int a, int b, int c) {
            return signOf(twiceSignedArea(a, b, xs.get(c), ys.get(c)));
        }

        // A position on the line lies between the ends just if it sees them in opposite directions.
        boolean covers(int a, int b, int x, int y) {
            if (twiceSignedArea(a, b, x, y) != 0) {
                return false;
            }
            return (xs.get(a) - x) * (xs.get(b) - x) + (ys.get(a) - y) * (ys.get(b) - y) < 0;
        }

        boolean coversPoint(int a, int b) {
            for (int p = 0; p < points; p++) {
                if (covers(a, b, xs.get(p), ys.get(p))) {
                    return true;
                }
            }
            return false;
        }

        // Segments on one line need no look here: where no point lies on either, they have no
        // inner point in common unless they are the same.
        boolean crosses(int a, int b, int c, int d) {
            return side(a, b, c) * side(a, b, d) < 0 && side(c, d, a) * side(c, d, b) < 0;
        }

        int squaredDistance(int a, int b) {
            int dx = xs.get(a) - xs.get(b);
            int dy = ys.get(a) - ys.get(b);
            return dx * dx + dy * dy;
        }

        // The determinant is positive inside for corners in counterclockwise order; the side of
        // the corners makes it the same for either order.
        int circleSide(int a, int b, int c, int d) {
            int x = xs.get(d);
            int y = ys.get(d);
            long sum = (long) squaredDistance(a, d) * twiceAreaFrom(x, y, b, c)
                    + (long) squaredDistance(b, d) * twiceAreaFrom(x, y, c, a)
                    + (long) squaredDistance(c, d) * twiceAreaFrom(x, y, a, b);
            return signOf(sum) * side(a, b, c);
        }

        private int twiceAreaFrom(int x, int y, int a, int b) {
            return (xs.get(a) - x) * (ys.get(b) - y) - (ys.get(a) - y) * (xs.get(b) - x);
        }
    }

    /** The one triangulation of a plan, with its numbers; draw() makes it anew. */
    private static final class Mesh {
        private final Plan plan;
        // For points a, b: the bits of the points strictly to the left of the line from a to b.
        private final Table lefts;
        // For points a, b: the third corner of the triangle to the left of the edge from a to b.
        private final Table thirds;
        // For points a, b: the number of that triangle.
        private final Table owners;
        // For each point: the bits of the points at the other ends of its edges.
        private final Row links;
        private final Row edgeLows;
        private final Row edgeHighs;
        private final Row corners;
        private final Row hull;
        private int edges;
        private int triangles;
        private int hullPoints;

        Mesh(Plan plan) {
            this.plan = plan;
            lefts = new Table(0);
            thirds = new Table(NONE);
            owners = new Table(NONE);
            links = new Row(MOST_POINTS);
            edgeLows = new Row(MOST_EDGES);
            edgeHighs = new Row(MOST_EDGES);
            corners = new Row(3 * MOST_TRIANGLES);
            hull = new Row(MOST_POINTS);
            edges = 0;
            triangles = 0;
            hullPoints = 0;
        }

        // First some triangulation that has the constraints as edges, then flips until all other
        // inner edges are good: the document says that only one triangulation can be the end.
        void draw() {
            findSides();
            drawSomeEdges();
            findThirds();
            boolean again = true;
            for (int round = 0; round < MOST_ROUNDS && again; round++) {
                again = flipBadEdges();
            }
            numberEdges();
            numberTriangles();
            numberHull();
        }

        private void findSides() {
            lefts.clear();
            for (int a = 0; a < plan.points(); a++) {
                for (int b = a + 1; b < plan.points(); b++) {
                    findSidesOf(a, b);
                }
            }
        }

        private void findSidesOf(int a, int b) {
            int left = 0;
            int right = 0;
            for (int c = 0; c < plan.points(); c++) {
                int side = plan.side(a, b, c);
                if (side > 0) {
                    left |= 1 << c;
                } else if (side < 0) {
                    right |= 1 << c;
                }
            }
            lefts.set(a, b, left);
            lefts.set(b, a, right);
        }

        // As many edges as have room without crossing, the constraints first: where not all
        // points are on a line, they part the hull into triangles.
        private void drawSomeEdges() {
            edges = 0;
            for (int p = 0; p < MOST_POINTS; p++) {
                links.set(p, 0);
            }
            for (int i = 0; i < plan.constraints(); i++) {
                drawEdge(plan.lowEnd(i), plan.highEnd(i));
            }
            for (int a = 0; a < plan.points(); a++) {
                for (int b = a + 1; b < plan.points(); b++) {
                    if (!isLinked(a, b) && !plan.coversPoint(a, b) && !crossesEdge(a, b)) {
                        drawEdge(a, b);
                    }
                }
            }
        }

        private boolean crossesEdge(int a, int b) {
            for (int e = 0; e < edges; e++) {
                if (splits(a, b, edgeLows.get(e), edgeHighs.get(e))) {
                    return true;
                }
            }
            return false;
        }

        private void drawEdge(int a, int b) {
            edgeLows.set(edges, a);
            edgeHighs.set(edges, b);
            edges++;
            link(a, b);
        }

        private void link(int a, int b) {
            links.set(a, links.get(a) | 1 << b);
            links.set(b, links.get(b) | 1 << a);
        }

        private void unlink(int a, int b) {
            links.set(a, links.get(a) & ~(1 << b));
            links.set(b, links.get(b) & ~(1 << a));
        }

        private boolean isLinked(int a, int b) {
            return (links.get(a) >> b & 1) != 0;
        }

        // Whether the segments from a to b and from c to d have just an inner point in common.
        private boolean splits(int a, int b, int c, int d) {
            return parts(a, b, c, d) && parts(c, d, a, b);
        }

        private boolean parts(int a, int b, int c, int d) {
            int left = lefts.get(a, b);
            int right = lefts.get(b, a);
            return ((left >> c & right >> d | left >> d & right >> c) & 1) != 0;
        }

        private void findThirds() {
            thirds.clear();
            for (int a = 0; a < plan.points(); a++) {
                for (int b = 0; b < plan.points(); b++) {
                    if (isLinked(a, b)) {
                        thirds.set(a, b, emptyCorner(a, b));
                    }
                }
            }
        }

        private int emptyCorner(int a, int b) {
            int found = links.get(a) & links.get(b) & lefts.get(a, b);
            for (int c = 0; c < plan.points(); c++) {
                int inside = lefts.get(a, b) & lefts.get(b, c) & lefts.get(c, a);
                if ((found >> c & 1) != 0 && inside == 0) {
                    return c;
                }
            }
            return NONE;
        }

        private boolean flipBadEdges() {
            boolean flipped = false;
            for (int a = 0; a < plan.points(); a++) {
                for (int b = a + 1; b < plan.points(); b++) {
                    if (isInner(a, b) && !passesCircle(a, b) && !plan.isConstraint(a, b)) {
                        flip(a, b);
                        flipped = true;
                    }
                }
            }
            return flipped;
        }

        private void flip(int a, int b) {
            int c = thirds.get(a, b);
            int d = thirds.get(b, a);
            unlink(a, b);
            link(c, d);
            thirds.set(a, b, NONE);
            thirds.set(b, a, NONE);
            thirds.turnRound(a, d, c);
            thirds.turnRound(d, b, c);
        }

        boolean isInner(int a, int b) {
            return thirds.get(a, b) != NONE && thirds.get(b, a) != NONE;
        }

        boolean passesCircle(int a, int b) {
            int c = thirds.get(a, b);
            int d = thirds.get(b, a);
            int where = plan.circleSide(a, b, c, d);
            return where < 0 || where == 0 && Math.max(c, d) > Math.max(a, b);
        }

        private void numberEdges() {
            edges = 0;
            for (int a = 0; a < plan.points(); a++) {
                for (int b = a + 1; b < plan.points(); b++) {
                    if (isLinked(a, b)) {
                        edgeLows.set(edges, a);
                        edgeHighs.set(edges, b);
                        edges++;
                    }
                }
            }
        }

        private void numberTriangles() {
            owners.clear();
            triangles = 0;
            for (int a = 0; a < plan.points(); a++) {
                for (int b = a + 1; b < plan.points(); b++) {
                    int c = thirds.get(a, b);
                    if (c > a) {
                        addTriangle(a, b, c);
                    }
                }
            }
        }

        private void addTriangle(int a, int b, int c) {
            corners.set(3 * triangles, a);
            corners.set(3 * triangles + 1, b);
            corners.set(3 * triangles + 2, c);
            owners.set(a, b, triangles);
            owners.set(b, c, triangles);
            owners.set(c, a, triangles);
            triangles++;
        }

        private void numberHull() {
            hullPoints = 0;
            int point = firstOnHull();
            while (hullPoints < MOST_POINTS && point != NONE) {
                hull.set(hullPoints, point);
                hullPoints++;
                point = nextOnHull(point);
                if (point == hull.get(0)) {
                    point = NONE;
                }
            }
        }

        private int firstOnHull() {
            for (int p = 0; p < plan.points(); p++) {
                if (nextOnHull(p) != NONE) {
                    return p;
                }
            }
            return NONE;
        }

        private int nextOnHull(int point) {
            for (int q = 0; q < plan.points(); q++) {
                if (thirds.get(point, q) != NONE && thirds.get(q, point) == NONE) {
                    return q;
                }
            }
            return NONE;
        }

        int triangles() {
            return triangles;
        }

        int edges() {
            return edges;
        }

        int hullPoints() {
            return hullPoints;
        }

        int hullPointAt(int index) {
            return hull.get(index);
        }

        int cornerOf(int triangle, int which) {
            return corners.get(3 * triangle + which);
        }

        int cornerAfter(int triangle, int which) {
            return cornerOf(triangle, which == 2 ? 0 : which + 1);
        }

        boolean hasTriangle(int a, int b, int c) {
            return thirds.get(a, b) == c;
        }

        int triangleAcross(int triangle, int which) {
            return owners.get(cornerAfter(triangle, which), cornerOf(triangle, which));
        }

        int lowEnd(int edge) {
            return edgeLows.get(edge);
        }

        int highEnd(int edge) {
            return edgeHighs.get(edge);
        }

        int edgeOf(int a, int b) {
            for (int e = 0; e < edges; e++) {
                if (edgeLows.get(e) == Math.min(a, b) && edgeHighs.get(e) == Math.max(a, b)) {
                    return e;
                }
            }
            return NONE;
        }

        int degreeOf(int point) {
            return Integer.bitCount(links.get(point));
        }

        int neighbourOf(int point, int index) {
            int before = 0;
            for (int q = 0; q < plan.points(); q++) {
                if (isLinked(point, q)) {
                    if (before == index) {
                        return q;
                    }
                    before++;
                }
            }
            return NONE;
        }

        int areaOf(int triangle) {
            int third = cornerOf(triangle, 2);
            return plan.twiceSignedArea(cornerOf(triangle, 0), cornerOf(triangle, 1),
                    plan.xOf(third), plan.yOf(third));
        }

        int hullArea() {
            int sum = 0;
            for (int t = 0; t < triangles; t++) {
                sum += areaOf(t);
            }
            return sum;
        }

        int lengthOf(int edge) {
            return plan.squaredDistance(edgeLows.get(edge), edgeHighs.get(edge));
        }

        int leastLength() {
            int least = lengthOf(0);
            for (int e = 1; e < edges; e++) {
                least = Math.min(least, lengthOf(e));
            }
            return least;
        }

        int greatestLength() {
            int greatest = lengthOf(0);
            for (int e = 1; e < edges; e++) {
                greatest = Math.max(greatest, lengthOf(e));
            }
            return greatest;
        }

        // The tree grows from point 0 by the shortest edge that leaves it.
        int leastTree() {
            int sum = 0;
            int reached = 1;
            for (int i = 1; i < plan.points(); i++) {
                int edge = shortestLeaving(reached);
                if (edge == NONE) {
                    break;
                }
                sum += lengthOf(edge);
                reached |= 1 << edgeLows.get(edge) | 1 << edgeHighs.get(edge);
            }
            return sum;
        }

        private int shortestLeaving(int reached) {
            int best = NONE;
            for (int e = 0; e < edges; e++) {
                boolean leaves = ((reached >> edgeLows.get(e) ^ reached >> edgeHighs.get(e)) & 1) != 0;
                if (leaves && (best == NONE || lengthOf(e) < lengthOf(best))) {
                    best = e;
                }
            }
            return best;
        }

        int edgeAt(int x, int y) {
            for (int e = 0; e < edges; e++) {
                if (plan.covers(edgeLows.get(e), edgeHighs.get(e), x, y)) {
                    return e;
                }
            }
            return NONE;
        }

        int triangleAt(int x, int y) {
            for (int t = 0; t < triangles; t++) {
                if (exitTowards(t, x, y) == NONE) {
                    return t;
                }
            }
            return NONE;
        }

        int exitTowards(int triangle, int x, int y) {
            for (int which = 0; which < 3; which++) {
                int from = cornerOf(triangle, which);
                if (plan.twiceSignedArea(from, cornerAfter(triangle, which), x, y) < 0) {
                    return which;
                }
            }
            return NONE;
        }

        boolean edgeMeets(int edge, int a, int b) {
            int low = edgeLows.get(edge);
            int high = edgeHighs.get(edge);
            return splits(a, b, low, high) || reaches(a, b, low) && reaches(a, b, high);
        }

        private boolean reaches(int a, int b, int point) {
            return point == a || point == b
                    || plan.covers(a, b, plan.xOf(point), plan.yOf(point));
        }
    }

    /** The plans before the latest changes; of more than 12, the oldest gives way. */
    private static final class History {
        private final Plan[] plans;
        private int next;
        private int kept;

        History() {
            plans = new Plan[MOST_CHANGES];
            for (int i = 0; i < plans.length; i++) {
                plans[i] = new Plan();
            }
            next = 0;
            kept = 0;
        }

        int kept() {
            return kept;
        }

        void clear() {
            kept = 0;
        }

        void remember(Plan plan) {
            if (next >= 0 && next < plans.length && plans[next] != null) {
                plans[next].copyFrom(plan);
            }
            next = next + 1 < MOST_CHANGES ? next + 1 : 0;
            kept = Math.min(kept + 1, MOST_CHANGES);
        }

        void recallInto(Plan plan) {
            next = next > 0 ? next - 1 : MOST_CHANGES - 1;
            kept = Math.max(kept - 1, 0);
            if (next >= 0 && next < plans.length && plans[next] != null) {
                plan.copyFrom(plans[next]);
            }
        }
    }

    /** The characters that were fed, and the entries that they make. */
    private static final class Input {
        private final Row characters;
        private final Row firsts;
        private final Row seconds;
        private final Row segments;
        private int length;
        private int entries;
        private boolean inSecond;
        private int digits;
        private int value;

        Input() {
            characters = new Row(MOST_CHARACTERS);
            firsts = new Row(MOST_ENTRIES);
            seconds = new Row(MOST_ENTRIES);
            segments = new Row(MOST_ENTRIES);
            length = 0;
            entries = 0;
            inSecond = false;
            digits = 0;
            value = 0;
        }

        int length() {
            return length;
        }

        void append(char character) {
            characters.set(length, character);
            length++;
        }

        void clear() {
            length = 0;
            entries = 0;
        }

        int entries() {
            return entries;
        }

        int firstOf(int entry) {
            return firsts.get(entry);
        }

        int secondOf(int entry) {
            return seconds.get(entry);
        }

        boolean isSegment(int entry) {
            return segments.get(entry) != 0;
        }

        // Returns the error position, or NONE if the characters are entries.
        int parse() {
            entries = 0;
            inSecond = false;
            startNumber();
            for (int i = 0; i < length; i++) {
                if (!takes(characters.get(i))) {
                    return i;
                }
            }
            if (!inSecond || digits == 0) {
                return length;
            }
            endEntry();
            return NONE;
        }

        private void startNumber() {
            digits = 0;
            value = 0;
        }

        private boolean takes(int character) {
            if (character >= '0' && character <= '9') {
                return takesDigit(character - '0');
            }
            if (digits == 0) {
                return false;
            }
            return inSecond ? takesEnd(character) : takesMiddle(character);
        }

        private boolean takesDigit(int digit) {
            if (digits == MOST_DIGITS) {
                return false;
            }
            value = 10 * value + digit;
            digits++;
            return true;
        }

        private boolean takesMiddle(int character) {
            if (character != ',' && character != '-') {
                return false;
            }
            firsts.set(entries, value);
            segments.set(entries, character == '-' ? 1 : 0);
            inSecond = true;
            startNumber();
            return true;
        }

        private boolean takesEnd(int character) {
            if (character != ';') {
                return false;
            }
            endEntry();
            return true;
        }

        private void endEntry() {
            seconds.set(entries, value);
            entries++;
            inSecond = false;
            startNumber();
        }
    }
}
