/** Promises 13 to 15, 23 and 24, sentence by sentence. */
final class TriangleBoundaries extends Boundary {
    private TriangleBoundaries() {
    }

    static void all() {
        triangleCount();
        corner();
        cornerWhich();
        cornerIndex();
        cornerArgument();
        beyond();
        beyondWhich();
        beyondHull();
        beyondIndex();
        beyondArgument();
        twiceArea();
        twiceAreaIndex();
        areaShare();
        areaShareIndex();
    }

    private static void triangleCount() {
        sentence("13", "Returns the number of triangles.");
        same("no points", States.empty().triangleCount(), 0);
        same("one point", States.one().triangleCount(), 0);
        same("two points", Picture.made(0, 0, 100, 100).triangleCount(), 0);
        same("on a line", States.line().triangleCount(), 0);
        same("16 on a line", States.longLine().triangleCount(), 0);
        same("three points", States.triangle().triangleCount(), 1);
        same("16 on the hull", States.rim().triangleCount(), 14);
        same("15 on the hull", States.wheel().triangleCount(), 15);
        same("three on the hull", States.most().triangleCount(), 27);
        ConstrainedDelaunay d = States.longLine();
        d.movePoint(15, 75, 31);
        same("15 on a line", d.triangleCount(), 14);
    }

    private static void corner() {
        sentence("14", "Returns a corner of a triangle.", "Returns the point.");
        same("the only triangle", Picture.triangles(States.triangle()), " 0.1.2");
        ConstrainedDelaunay d = States.rim();
        same("the first", d.corner(0, 0) + "." + d.corner(0, 1) + "." + d.corner(0, 2), "0.1.2");
        same("the last", d.corner(13, 0) + "." + d.corner(13, 1) + "." + d.corner(13, 2), "0.14.15");
        same("the last of the most", States.most().corner(26, 0) >= 0, true);
    }

    private static void cornerWhich() {
        sentence("14", "- `which`: the corner, 0 to 2");
        ConstrainedDelaunay d = Picture.made(0, 0, 0, 100, 100, 0);
        same("0", d.corner(0, 0), 0);
        same("1", d.corner(0, 1), 2);
        same("2", d.corner(0, 2), 1);
    }

    private static void cornerIndex() {
        sentence("14", "Throws `IndexOutOfBoundsException` if there is no such triangle");
        refusesEach(States::triangle, "of 1", INDEX, outside(1), (d, n) -> d.corner(n, 0));
        refusesEach(States::rim, "of 14", INDEX, outside(14), (d, n) -> d.corner(n, 1));
        refusesEach(States::most, "of 27", INDEX, outside(27), (d, n) -> d.corner(n, 2));
        refusesEach(States::line, "on a line", INDEX, outside(0), (d, n) -> d.corner(n, 0));
        refusesEach(States::empty, "of none", INDEX, outside(0), (d, n) -> d.corner(n, 0));
    }

    private static void cornerArgument() {
        sentence("14", "Throws `IllegalArgumentException` if which is out of range");
        refusesEach(States::busy, "which", ARGUMENT, NO_THIRD, (d, n) -> d.corner(0, n));
        refusesEach(States::most, "which", ARGUMENT, NO_THIRD, (d, n) -> d.corner(26, n));
    }

    private static void beyond() {
        sentence("15", "Returns the triangle beyond an edge of a triangle.");
        same("alone", Picture.beyonds(States.triangle()), " -1.-1.-1");
        same("two", Picture.beyonds(Picture.square()), " -1.-1.1 0.-1.-1");
        ConstrainedDelaunay d = States.rim();
        same("the first", d.beyond(0, 0) + " " + d.beyond(0, 1) + " " + d.beyond(0, 2), "-1 -1 1");
        same("the last", d.beyond(13, 0) + " " + d.beyond(13, 1) + " " + d.beyond(13, 2), "12 -1 -1");
        same("round a point", Picture.beyonds(Picture.made(50, 50, 0, 0, 100, 0, 100, 100, 0, 100)),
                " 3.-1.1 0.-1.2 1.-1.3 2.-1.0");
    }

    private static void beyondWhich() {
        sentence("15", "- `which`: 0 for the edge from corner 0 to corner 1, 1 for the edge from corner 1"
                + " to corner 2, 2 for the edge from corner 2 to corner 0");
        ConstrainedDelaunay d = Picture.made(40, 40, 60, 40, 50, 60, 50, 0, 100, 70, 0, 70);
        same("triangles", Picture.triangles(d), " 0.1.2 0.2.5 0.3.1 0.5.3 1.3.4 1.4.2 2.4.5");
        same("0", d.beyond(0, 0), 2);
        same("1", d.beyond(0, 1), 5);
        same("2", d.beyond(0, 2), 1);
    }

    private static void beyondHull() {
        sentence("15", "Returns the other triangle to which the edge belongs, or -1 for a hull edge.");
        ConstrainedDelaunay d = States.most();
        int hull = 0;
        for (int t = 0; t < 27; t++) {
            for (int which = 0; which < 3; which++) {
                int other = d.beyond(t, which);
                hull += other == -1 ? 1 : 0;
                same("there and back", other == -1 || other >= 0 && other < 27 && other != t
                        && Picture.beyonds(d).split(""
                                + " ")[other + 1].matches("(.*\\.)?" + t + "(\\..*)?"), true);
            }
        }
        same("hull edges", hull, 3);
        ConstrainedDelaunay constraint = Picture.square();
        constraint.addConstraint(0, 1);
        constraint.addConstraint(0, 2);
        same("a constraint on the hull", constraint.beyond(0, 0), -1);
        same("a constraint within", constraint.beyond(0, 2), 1);
    }

    private static void beyondIndex() {
        sentence("15", "Throws `IndexOutOfBoundsException` if there is no such triangle");
        refusesEach(States::triangle, "of 1", INDEX, outside(1), (d, n) -> d.beyond(n, 0));
        refusesEach(States::most, "of 27", INDEX, outside(27), (d, n) -> d.beyond(n, 2));
        refusesEach(States::line, "on a line", INDEX, outside(0), (d, n) -> d.beyond(n, 1));
        refusesEach(States::empty, "of none", INDEX, outside(0), (d, n) -> d.beyond(n, 0));
    }

    private static void beyondArgument() {
        sentence("15", "Throws `IllegalArgumentException` if which is out of range");
        refusesEach(States::busy, "which", ARGUMENT, NO_THIRD, (d, n) -> d.beyond(0, n));
        refusesEach(States::most, "which", ARGUMENT, NO_THIRD, (d, n) -> d.beyond(26, n));
    }

    private static void twiceArea() {
        sentence("23", "Returns twice the area of a triangle.", "Returns twice the area.");
        same("the greatest", States.triangle().twiceArea(0), 10000);
        same("the least", Picture.made(0, 0, 100, 99, 99, 98).twiceArea(0), 1);
        same("turned", Picture.made(0, 0, 0, 100, 100, 100).twiceArea(0), 10000);
        ConstrainedDelaunay d = States.most();
        int sum = 0;
        for (int t = 0; t < 27; t++) {
            sum += d.twiceArea(t);
        }
        same("of all 27", sum, 10000);
        ConstrainedDelaunay two = Picture.made(0, 0, 100, 0, 100, 100, 0, 99);
        same("the first and the last", two.twiceArea(0) + " " + two.twiceArea(1), "9900 10000");
    }

    private static void twiceAreaIndex() {
        sentence("23", "Throws `IndexOutOfBoundsException` if there is no such triangle");
        refusesEach(States::triangle, "of 1", INDEX, outside(1), (d, n) -> d.twiceArea(n));
        refusesEach(States::most, "of 27", INDEX, outside(27), (d, n) -> d.twiceArea(n));
        refusesEach(States::line, "on a line", INDEX, outside(0), (d, n) -> d.twiceArea(n));
        refusesEach(States::empty, "of none", INDEX, outside(0), (d, n) -> d.twiceArea(n));
    }

    private static void areaShare() {
        sentence("24", "Returns the area of a triangle divided by the area of the convex hull: the two"
                + " numbers that are twice these areas are converted to double and divided.", "Returns the"
                + " quotient.");
        same("all", States.triangle().areaShare(0), 1.0);
        same("all of the least", Picture.made(0, 0, 1, 0, 0, 1).areaShare(0), 1.0);
        ConstrainedDelaunay least = Picture.made(0, 0, 1, 0, 0, 1, 100, 0, 100, 100, 0, 100);
        same("the least share", least.areaShare(0), 1.0 / 20000.0);
        ConstrainedDelaunay thirds = Picture.made(0, 0, 3, 0, 0, 3, 1, 1);
        same("a third", thirds.areaShare(1), 3.0 / 9.0);
        ConstrainedDelaunay sevenths = Picture.made(0, 0, 7, 0, 3, 1, 0, 7);
        same("sevenths", sevenths.areaShare(0) + " " + sevenths.areaShare(1) + " " + sevenths.areaShare(2),
                7.0 / 49.0 + " " + 21.0 / 49.0 + " " + 21.0 / 49.0);
        ConstrainedDelaunay sides = Picture.made(0, 0, 50, 0, 100, 0, 50, 50);
        same("a point on a side of the hull", sides.areaShare(0), 0.5);
        ConstrainedDelaunay fewer = States.rim();
        fewer.removePoint(15);
        int whole = 0;
        for (int t = 0; t < 13; t++) {
            whole += fewer.twiceArea(t);
        }
        same("after a removal", fewer.areaShare(12), (double) fewer.twiceArea(12) / (double) whole);
    }

    private static void areaShareIndex() {
        sentence("24", "Throws `IndexOutOfBoundsException` if there is no such triangle");
        refusesEach(States::triangle, "of 1", INDEX, outside(1), (d, n) -> d.areaShare(n));
        refusesEach(States::most, "of 27", INDEX, outside(27), (d, n) -> d.areaShare(n));
        refusesEach(States::line, "on a line", INDEX, outside(0), (d, n) -> d.areaShare(n));
        refusesEach(States::empty, "of none", INDEX, outside(0), (d, n) -> d.areaShare(n));
    }
}
