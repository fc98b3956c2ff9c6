import java.util.Random;

/** The description's properties of the triangulation, looked for one by one on many plans. */
public final class PropertiesTest {
    private final ConstrainedDelaunay d;

    private PropertiesTest(ConstrainedDelaunay d) {
        this.d = d;
    }

    public static void main(String[] args) {
        Random random = new Random(11);
        for (int round = 0; round < 1500; round++) {
            int scale = new int[] {101, 5, 4, 3, 8, 30}[round % 6];
            ConstrainedDelaunay d = made(random, scale, 1 + random.nextInt(16), random.nextInt(11));
            new PropertiesTest(d).look("plan " + round);
        }
        Check.finish();
    }

    private static ConstrainedDelaunay made(Random random, int scale, int points, int constraints) {
        ConstrainedDelaunay d = new ConstrainedDelaunay();
        for (int i = 0; i < 60 && d.pointCount() < points; i++) {
            int x = random.nextInt(scale);
            int y = random.nextInt(scale);
            if (d.kindAt(x, y) != 1) {
                d.addPoint(x, y);
            }
        }
        for (int i = 0; i < 60 && d.constraintCount() < constraints; i++) {
            try {
                d.addConstraint(random.nextInt(d.pointCount()), random.nextInt(d.pointCount()));
            } catch (IllegalArgumentException | UnsupportedOperationException refused) {
                continue;
            }
        }
        return d;
    }

    private void look(String what) {
        Check.same(what + ": no point in a triangle", pointsInTriangles(), 0);
        Check.same(what + ": each constraint an edge", constraintsNotEdges(), 0);
        Check.same(what + ": inner edges", badEdges(), 0);
        Check.same(what + ": edges cross", crossingEdges(), 0);
        Check.same(what + ": order", ordered(), true);
        if (d.triangleCount() > 0) {
            int n = d.pointCount();
            int h = d.hullSize();
            Check.same(what + ": triangles", d.triangleCount(), 2 * n - 2 - h);
            Check.same(what + ": edges", d.edgeCount(), 3 * n - 3 - h);
            Check.same(what + ": area", area(), hullArea());
            Check.same(what + ": hull", leftOfHull(), true);
        } else {
            Check.same(what + ": edges on a line", d.edgeCount(), Math.max(0, d.pointCount() - 1));
        }
    }

    private int turned(int a, int b, int c) {
        int ax = d.coordinate(a, 0);
        int ay = d.coordinate(a, 1);
        return (d.coordinate(b, 0) - ax) * (d.coordinate(c, 1) - ay)
                - (d.coordinate(b, 1) - ay) * (d.coordinate(c, 0) - ax);
    }

    private int pointsInTriangles() {
        int count = 0;
        for (int t = 0; t < d.triangleCount(); t++) {
            int a = d.corner(t, 0);
            int b = d.corner(t, 1);
            int c = d.corner(t, 2);
            for (int p = 0; p < d.pointCount(); p++) {
                boolean apart = p != a && p != b && p != c;
                if (apart && turned(a, b, p) >= 0 && turned(b, c, p) >= 0 && turned(c, a, p) >= 0) {
                    count++;
                }
            }
        }
        return count;
    }

    private int constraintsNotEdges() {
        int count = 0;
        for (int c = 0; c < d.constraintCount(); c++) {
            if (!isEdge(d.constraintEnd(c, 0), d.constraintEnd(c, 1))) {
                count++;
            }
        }
        return count;
    }

    private boolean isEdge(int a, int b) {
        for (int e = 0; e < d.edgeCount(); e++) {
            if (d.edgeEnd(e, 0) == a && d.edgeEnd(e, 1) == b) {
                return true;
            }
        }
        return false;
    }

    private boolean isConstraint(int a, int b) {
        for (int c = 0; c < d.constraintCount(); c++) {
            if (d.constraintEnd(c, 0) == Math.min(a, b) && d.constraintEnd(c, 1) == Math.max(a, b)) {
                return true;
            }
        }
        return false;
    }

    // Goodness by the words of the document, from beyond and inCircle.
    private int badEdges() {
        int count = 0;
        for (int t = 0; t < d.triangleCount(); t++) {
            for (int which = 0; which < 3; which++) {
                int other = d.beyond(t, which);
                int a = d.corner(t, which);
                int b = d.corner(t, (which + 1) % 3);
                if (other >= 0 && !isConstraint(a, b) && !good(a, b, third(t, a, b), third(other, a, b))) {
                    count++;
                }
            }
        }
        return count;
    }

    private int third(int t, int a, int b) {
        return d.corner(t, 0) + d.corner(t, 1) + d.corner(t, 2) - a - b;
    }

    private boolean good(int a, int b, int c, int e) {
        int where = d.inCircle(a, b, c, e);
        int greatest = Math.max(Math.max(a, b), Math.max(c, e));
        return where < 0 || where == 0 && a != greatest && b != greatest;
    }

    private int crossingEdges() {
        int count = 0;
        for (int e = 0; e < d.edgeCount(); e++) {
            if (d.crossings(d.edgeEnd(e, 0), d.edgeEnd(e, 1)) != 1) {
                count++;
            }
        }
        return count;
    }

    private boolean ordered() {
        boolean right = true;
        for (int t = 0; t < d.triangleCount(); t++) {
            int a = d.corner(t, 0);
            right &= a < d.corner(t, 1) && a < d.corner(t, 2) && d.twiceArea(t) > 0;
            right &= t == 0 || rank(t - 1) < rank(t);
        }
        for (int e = 0; e < d.edgeCount(); e++) {
            right &= d.edgeEnd(e, 0) < d.edgeEnd(e, 1);
            right &= e == 0 || 16 * d.edgeEnd(e - 1, 0) + d.edgeEnd(e - 1, 1)
                    < 16 * d.edgeEnd(e, 0) + d.edgeEnd(e, 1);
        }
        return right;
    }

    private int rank(int t) {
        return 256 * d.corner(t, 0) + 16 * d.corner(t, 1) + d.corner(t, 2);
    }

    private int area() {
        int sum = 0;
        for (int t = 0; t < d.triangleCount(); t++) {
            sum += d.twiceArea(t);
        }
        return sum;
    }

    private int hullArea() {
        int sum = 0;
        for (int i = 0; i < d.hullSize(); i++) {
            int p = d.hullPoint(i);
            int q = d.hullPoint((i + 1) % d.hullSize());
            sum += d.coordinate(p, 0) * d.coordinate(q, 1) - d.coordinate(p, 1) * d.coordinate(q, 0);
        }
        return sum;
    }

    private boolean leftOfHull() {
        boolean right = true;
        for (int i = 0; i < d.hullSize(); i++) {
            int p = d.hullPoint(i);
            int q = d.hullPoint((i + 1) % d.hullSize());
            right &= d.hullPoint(0) <= p;
            for (int r = 0; r < d.pointCount(); r++) {
                right &= turned(p, q, r) >= 0;
            }
        }
        return right;
    }
}
