import java.util.NoSuchElementException;

/** Promises 13 to 26: the triangulation, its numbers and its measures. */
public final class TriangulationTest {
    private TriangulationTest() {
    }

    public static void main(String[] args) {
        pointsOnOneCircle();
        constraintsForce();
        triangles();
        beyond();
        edges();
        edgesOnOneLine();
        edgeBetween();
        neighbours();
        hull();
        areas();
        meanDegree();
        squaredLength();
        treeKeepsToEdges();
        most();
        Check.finish();
    }

    private static ConstrainedDelaunay centred() {
        return Picture.made(50, 50, 0, 0, 100, 0, 100, 100, 0, 100);
    }

    private static void pointsOnOneCircle() {
        Check.same("13 the greatest number has no diagonal",
                Picture.triangles(Picture.made(0, 0, 40, 0, 40, 40, 0, 40)), " 0.1.2 0.2.3");
        Check.same("13 in another order",
                Picture.triangles(Picture.made(0, 0, 40, 0, 0, 40, 40, 40)), " 0.1.2 1.3.2");
        Check.same("13 in a third order",
                Picture.triangles(Picture.made(40, 40, 0, 0, 40, 0, 0, 40)), " 0.1.2 0.3.1");
        ConstrainedDelaunay eight = Picture.made(10, 0, 30, 0, 40, 10, 40, 30, 30, 40, 10, 40, 0, 30,
                0, 10);
        Check.same("13 eight points", Picture.triangles(eight),
                " 0.1.2 0.2.3 0.3.4 0.4.5 0.5.6 0.6.7");
        eight.removePoint(0);
        Check.same("13 seven points", Picture.triangles(eight), " 0.1.2 0.2.3 0.3.4 0.4.5 0.5.6");
    }

    private static void constraintsForce() {
        ConstrainedDelaunay d = Picture.made(0, 10, 100, 10, 50, 11, 50, 9);
        Check.same("13 the short diagonal", Picture.triangles(d), " 0.3.2 1.2.3");
        d.addConstraint(1, 0);
        Check.same("13 the forced one", Picture.triangles(d), " 0.1.2 0.3.1");
        d.addPoint(50, 100);
        Check.same("13 it stays", Picture.triangles(d), " 0.1.2 0.2.4 0.3.1 1.4.2");
        d.addPoint(50, 0);
        Check.same("13 on both sides", Picture.triangles(d), " 0.1.2 0.2.4 0.3.1 0.5.3 1.3.5 1.4.2");
    }

    private static void triangles() {
        ConstrainedDelaunay d = centred();
        Check.same("13 four", d.triangleCount(), 4);
        Check.same("14 order", Picture.triangles(d), " 0.1.2 0.2.3 0.3.4 0.4.1");
        Check.refuses(d, "14 -1", IndexOutOfBoundsException.class, () -> d.corner(-1, 0));
        Check.refuses(d, "14 index first", IndexOutOfBoundsException.class, () -> d.corner(4, 3));
        Check.refuses(d, "14 which 3", IllegalArgumentException.class, () -> d.corner(0, 3));
        Check.refuses(d, "14 which -1", IllegalArgumentException.class, () -> d.corner(0, -1));
        ConstrainedDelaunay line = Picture.made(0, 0, 100, 100, 50, 50);
        Check.same("13 on a line", line.triangleCount(), 0);
        Check.refuses(line, "14 on a line", IndexOutOfBoundsException.class, () -> line.corner(0, 0));
        line.addPoint(50, 51);
        Check.same("13 off the line", Picture.triangles(line), " 0.2.3 1.3.2");
    }

    private static void beyond() {
        ConstrainedDelaunay d = centred();
        Check.same("15 all", Picture.beyonds(d), " 3.-1.1 0.-1.2 1.-1.3 2.-1.0");
        Check.same("15 square", Picture.beyonds(Picture.square()), " -1.-1.1 0.-1.-1");
        Check.refuses(d, "15 index first", IndexOutOfBoundsException.class, () -> d.beyond(4, -1));
        Check.refuses(d, "15 -1", IndexOutOfBoundsException.class, () -> d.beyond(-1, 0));
        Check.refuses(d, "15 which 3", IllegalArgumentException.class, () -> d.beyond(3, 3));
        Check.refuses(d, "15 which -1", IllegalArgumentException.class, () -> d.beyond(3, -1));
    }

    private static void edges() {
        ConstrainedDelaunay d = centred();
        Check.same("16 eight", d.edgeCount(), 8);
        Check.same("17 order", Picture.edges(d), " 0-1 0-2 0-3 0-4 1-2 1-4 2-3 3-4");
        Check.refuses(d, "17 index first", IndexOutOfBoundsException.class, () -> d.edgeEnd(8, 2));
        Check.refuses(d, "17 -1", IndexOutOfBoundsException.class, () -> d.edgeEnd(-1, 0));
        Check.refuses(d, "17 which 2", IllegalArgumentException.class, () -> d.edgeEnd(0, 2));
        Check.refuses(d, "17 which -1", IllegalArgumentException.class, () -> d.edgeEnd(0, -1));
    }

    private static void edgesOnOneLine() {
        ConstrainedDelaunay d = new ConstrainedDelaunay();
        Check.same("16 no points", d.edgeCount(), 0);
        d.addPoint(30, 60);
        Check.same("16 one point", d.edgeCount(), 0);
        d.addPoint(10, 20);
        Check.same("17 two points", Picture.edges(d), " 0-1");
        d.addPoint(50, 100);
        d.addPoint(20, 40);
        Check.same("17 four points", Picture.edges(d), " 0-2 0-3 1-3");
        ConstrainedDelaunay upright = Picture.made(5, 9, 5, 1, 5, 5);
        Check.same("17 upright", Picture.edges(upright), " 0-2 1-2");
    }

    private static void edgeBetween() {
        ConstrainedDelaunay d = centred();
        Check.same("18 a b", d.edgeBetween(1, 4), 5);
        Check.same("18 b a", d.edgeBetween(4, 1), 5);
        Check.refuses(d, "18 a", IndexOutOfBoundsException.class, () -> d.edgeBetween(5, 0));
        Check.refuses(d, "18 b", IndexOutOfBoundsException.class, () -> d.edgeBetween(0, -1));
        Check.refuses(d, "18 none", NoSuchElementException.class, () -> d.edgeBetween(1, 3));
        Check.refuses(d, "18 the same", NoSuchElementException.class, () -> d.edgeBetween(2, 2));
        ConstrainedDelaunay line = Picture.made(0, 0, 2, 0, 1, 0);
        Check.same("18 on a line", line.edgeBetween(2, 1), 1);
        Check.refuses(line, "18 over a point", NoSuchElementException.class,
                () -> line.edgeBetween(0, 1));
    }

    private static void neighbours() {
        ConstrainedDelaunay d = centred();
        Check.same("19 centre", d.degree(0), 4);
        Check.same("19 corner", d.degree(4), 3);
        Check.same("20 ascending",
                "" + d.neighbour(4, 0) + d.neighbour(4, 1) + d.neighbour(4, 2), "013");
        Check.same("20 last of the centre", d.neighbour(0, 3), 4);
        Check.refuses(d, "19 5", IndexOutOfBoundsException.class, () -> d.degree(5));
        Check.refuses(d, "19 -1", IndexOutOfBoundsException.class, () -> d.degree(-1));
        Check.refuses(d, "20 index first", IndexOutOfBoundsException.class, () -> d.neighbour(5, 9));
        Check.refuses(d, "20 point -1", IndexOutOfBoundsException.class, () -> d.neighbour(-1, 0));
        Check.refuses(d, "20 index 3", NoSuchElementException.class, () -> d.neighbour(4, 3));
        Check.refuses(d, "20 index -1", NoSuchElementException.class, () -> d.neighbour(4, -1));
        ConstrainedDelaunay one = Picture.made(1, 1);
        Check.same("19 alone", one.degree(0), 0);
        Check.refuses(one, "20 alone", NoSuchElementException.class, () -> one.neighbour(0, 0));
    }

    private static void hull() {
        ConstrainedDelaunay d = centred();
        Check.same("21 four", d.hullSize(), 4);
        Check.same("22 from the lowest on the hull", Picture.hull(d), " 1 2 3 4");
        Check.refuses(d, "22 4", IndexOutOfBoundsException.class, () -> d.hullPoint(4));
        Check.refuses(d, "22 -1", IndexOutOfBoundsException.class, () -> d.hullPoint(-1));
        ConstrainedDelaunay sides = Picture.made(0, 40, 20, 0, 40, 0, 0, 0, 10, 0, 20, 20, 1, 1);
        Check.same("22 points on the sides", Picture.hull(sides), " 0 3 4 1 2 5");
        Check.same("21 points on the sides", sides.hullSize(), 6);
        ConstrainedDelaunay line = Picture.made(0, 0, 1, 1, 2, 2);
        line.addConstraint(0, 1);
        Check.same("21 on a line", line.hullSize(), 0);
        Check.refuses(line, "22 on a line", IndexOutOfBoundsException.class, () -> line.hullPoint(0));
    }

    private static void areas() {
        ConstrainedDelaunay d = Picture.made(0, 0, 100, 0, 100, 100, 0, 100);
        d.addPoint(50, 10);
        Check.same("23 triangles", Picture.triangles(d), " 0.1.4 0.4.3 1.2.4 2.3.4");
        Check.same("23 all", d.twiceArea(0) + " " + d.twiceArea(1) + " " + d.twiceArea(2) + " "
                + d.twiceArea(3), "1000 5000 5000 9000");
        Check.same("24 a tenth of half", d.areaShare(0), 0.05);
        Check.same("24 rest", d.areaShare(3), 0.45);
        Check.refuses(d, "23 4", IndexOutOfBoundsException.class, () -> d.twiceArea(4));
        Check.refuses(d, "23 -1", IndexOutOfBoundsException.class, () -> d.twiceArea(-1));
        Check.refuses(d, "24 4", IndexOutOfBoundsException.class, () -> d.areaShare(4));
        Check.refuses(d, "24 -1", IndexOutOfBoundsException.class, () -> d.areaShare(-1));
        ConstrainedDelaunay thirds = Picture.made(0, 0, 3, 0, 0, 3, 1, 1);
        Check.same("24 a third", thirds.areaShare(1), 1.0 / 3.0);
        ConstrainedDelaunay one = Picture.made(0, 0, 1, 0, 0, 1);
        Check.same("24 all of it", one.areaShare(0), 1.0);
        Check.same("23 the least", one.twiceArea(0), 1);
    }

    private static void meanDegree() {
        Check.same("25 centred", centred().meanDegree(), 3.2);
        Check.same("25 square", Picture.square().meanDegree(), 2.5);
        Check.same("25 one point", Picture.made(4, 4).meanDegree(), 0.0);
        Check.same("25 three on a line", Picture.made(4, 4, 5, 5, 9, 9).meanDegree(), 4.0 / 3.0);
        ConstrainedDelaunay none = new ConstrainedDelaunay();
        Check.refuses(none, "25 no points", NoSuchElementException.class, () -> none.meanDegree());
    }

    private static void squaredLength() {
        ConstrainedDelaunay d = centred();
        Check.same("26 least", d.squaredLength(0), 5000);
        Check.same("26 greatest", d.squaredLength(1), 10000);
        Check.same("26 tree", d.squaredLength(2), 20000);
        Check.refuses(d, "26 3", IllegalArgumentException.class, () -> d.squaredLength(3));
        Check.refuses(d, "26 -1", IllegalArgumentException.class, () -> d.squaredLength(-1));
        ConstrainedDelaunay one = Picture.made(7, 7);
        Check.refuses(one, "26 what first", IllegalArgumentException.class,
                () -> one.squaredLength(3));
        Check.refuses(one, "26 no edges", NoSuchElementException.class, () -> one.squaredLength(2));
        Check.refuses(one, "26 no least", NoSuchElementException.class, () -> one.squaredLength(0));
        ConstrainedDelaunay line = Picture.made(0, 0, 100, 100, 10, 10);
        Check.same("26 line least", line.squaredLength(0), 200);
        Check.same("26 line greatest", line.squaredLength(1), 16200);
        Check.same("26 line tree", line.squaredLength(2), 16400);
    }

    // No plan has more triangles and edges than 16 points with three of them on the hull.
    private static void most() {
        ConstrainedDelaunay d = Picture.made(0, 0, 100, 0, 0, 100);
        for (int i = 0; i < 13; i++) {
            d.addPoint(2 + 3 * i, 1 + 7 * i % 40);
        }
        Check.same("21 most", d.hullSize(), 3);
        Check.same("13 most", d.triangleCount(), 27);
        Check.same("16 most", d.edgeCount(), 42);
        int area = 0;
        for (int t = 0; t < 27; t++) {
            area += d.twiceArea(t);
        }
        Check.same("23 most", area, 10000);
        Check.same("17 the last edge", d.edgeEnd(41, 0) > 0 && d.edgeEnd(41, 1) > d.edgeEnd(41, 0), true);
        Check.same("18 the last edge", d.edgeBetween(d.edgeEnd(41, 0), d.edgeEnd(41, 1)), 41);
    }

    private static void treeKeepsToEdges() {
        ConstrainedDelaunay d = Picture.made(0, 10, 100, 10, 50, 11, 50, 9);
        Check.same("26 the short diagonal helps", d.squaredLength(2), 5006);
        d.addConstraint(0, 1);
        Check.same("26 it is no edge any more", d.squaredLength(2), 7503);
        Check.same("26 least of the edges", d.squaredLength(0), 2501);
    }
}
