/** Promises 16 to 22, 25 and 26, sentence by sentence. */
final class EdgeBoundaries extends Boundary {
    private EdgeBoundaries() {
    }

    static void all() {
        edgeCount();
        edgeEnd();
        edgeEndWhich();
        edgeEndIndex();
        edgeEndArgument();
        edgeBetween();
        edgeBetweenIndex();
        edgeBetweenMissing();
        degree();
        degreeIndex();
        neighbour();
        neighbourOrder();
        neighbourIndex();
        neighbourMissing();
        hullSize();
        hullPoint();
        hullOrder();
        hullFromZero();
        hullPointIndex();
        meanDegree();
        meanDegreeMissing();
        squaredLength();
        squaredLengthWhat();
        squaredLengthArgument();
        squaredLengthMissing();
    }

    private static void edgeCount() {
        sentence("16", "Returns the number of edges.");
        same("no points", States.empty().edgeCount(), 0);
        same("one point", States.one().edgeCount(), 0);
        same("two points", Picture.made(0, 0, 100, 100).edgeCount(), 1);
        same("three points", States.triangle().edgeCount(), 3);
        same("four on a line", States.line().edgeCount(), 3);
        same("16 on a line", States.longLine().edgeCount(), 15);
        same("16 on the hull", States.rim().edgeCount(), 29);
        same("three of 16 on the hull", States.most().edgeCount(), 42);
    }

    private static void edgeEnd() {
        sentence("17", "Returns an end of an edge.", "Returns the point.");
        ConstrainedDelaunay d = States.rim();
        same("the first", d.edgeEnd(0, 0) + "-" + d.edgeEnd(0, 1), "0-1");
        same("the last", d.edgeEnd(28, 0) + "-" + d.edgeEnd(28, 1), "14-15");
        same("the only one", Picture.edges(Picture.made(100, 100, 0, 0)), " 0-1");
    }

    private static void edgeEndWhich() {
        sentence("17", "- `which`: 0 for the end with the lower number, 1 for the other one");
        ConstrainedDelaunay d = Picture.made(90, 0, 0, 0, 45, 0);
        same("first edge", d.edgeEnd(0, 0) * 10 + d.edgeEnd(0, 1), 2);
        same("second edge", d.edgeEnd(1, 0) * 10 + d.edgeEnd(1, 1), 12);
        ConstrainedDelaunay turned = Picture.made(90, 0, 0, 0);
        turned.addConstraint(1, 0);
        same("a turned constraint", turned.edgeEnd(0, 0) * 10 + turned.edgeEnd(0, 1), 1);
    }

    private static void edgeEndIndex() {
        sentence("17", "Throws `IndexOutOfBoundsException` if there is no such edge");
        refusesEach(States::triangle, "of 3", INDEX, outside(3), (d, n) -> d.edgeEnd(n, 0));
        refusesEach(States::most, "of 42", INDEX, outside(42), (d, n) -> d.edgeEnd(n, 1));
        refusesEach(States::line, "on a line", INDEX, outside(3), (d, n) -> d.edgeEnd(n, 0));
        refusesEach(States::one, "of none", INDEX, outside(0), (d, n) -> d.edgeEnd(n, 0));
        refusesEach(States::empty, "of nothing", INDEX, outside(0), (d, n) -> d.edgeEnd(n, 0));
    }

    private static void edgeEndArgument() {
        sentence("17", "Throws `IllegalArgumentException` if which is neither 0 nor 1");
        refusesEach(States::busy, "which", ARGUMENT, NO_BIT, (d, n) -> d.edgeEnd(0, n));
        refusesEach(States::most, "which", ARGUMENT, NO_BIT, (d, n) -> d.edgeEnd(41, n));
        refusesEach(States::line, "which", ARGUMENT, NO_BIT, (d, n) -> d.edgeEnd(2, n));
    }

    private static void edgeBetween() {
        sentence("18", "Returns the number of the edge between two points.", "Returns the edge.");
        ConstrainedDelaunay d = States.rim();
        same("the first", d.edgeBetween(0, 1), 0);
        same("the first, turned", d.edgeBetween(1, 0), 0);
        same("to the last point", d.edgeBetween(15, 0), 14);
        same("the last", d.edgeBetween(14, 15), 28);
        same("the last of the most", States.most().edgeBetween(States.most().edgeEnd(41, 1),
                States.most().edgeEnd(41, 0)), 41);
        same("on a line", States.longLine().edgeBetween(15, 14), 14);
    }

    private static void edgeBetweenIndex() {
        sentence("18", "Throws `IndexOutOfBoundsException` if there is no such point");
        refusesEach(States::busy, "a of 7", INDEX, outside(7), (d, n) -> d.edgeBetween(n, 0));
        refusesEach(States::busy, "b of 7", INDEX, outside(7), (d, n) -> d.edgeBetween(0, n));
        refusesEach(States::most, "a of 16", INDEX, outside(16), (d, n) -> d.edgeBetween(n, 15));
        refusesEach(States::most, "b of 16", INDEX, outside(16), (d, n) -> d.edgeBetween(15, n));
        refusesEach(States::empty, "of none", INDEX, outside(0), (d, n) -> d.edgeBetween(n, n));
    }

    private static void edgeBetweenMissing() {
        sentence("18", "Throws `NoSuchElementException` if there is no edge between them");
        refuses(States::rim, "no edge", MISSING, d -> d.edgeBetween(1, 15));
        refuses(States::rim, "no edge, turned", MISSING, d -> d.edgeBetween(15, 1));
        refuses(States::rim, "the same", MISSING, d -> d.edgeBetween(15, 15));
        refuses(States::one, "the only point", MISSING, d -> d.edgeBetween(0, 0));
        refuses(States::line, "over a point", MISSING, d -> d.edgeBetween(0, 1));
        refuses(States::busy, "across a constraint", MISSING, d -> d.edgeBetween(4, 5));
    }

    private static void degree() {
        sentence("19", "Returns the number of edges that end at a point.", "Returns the number of edges.");
        same("the only point", States.one().degree(0), 0);
        same("of two", Picture.made(0, 0, 100, 100).degree(1), 1);
        same("the most", States.wheel().degree(0), 15);
        same("on the rim", States.wheel().degree(15), 3);
        same("the last ear", States.rim().degree(15), 2);
        same("the fan", States.rim().degree(0), 15);
        same("the end of a line", States.longLine().degree(0), 1);
        same("within a line", States.longLine().degree(14), 2);
        same("the other end", States.longLine().degree(15), 1);
        ConstrainedDelaunay turned = new ConstrainedDelaunay();
        for (int p = 15; p >= 0; p--) {
            turned.addPoint(States.rim().coordinate(p, 0), States.rim().coordinate(p, 1));
        }
        turned.addConstraint(1, 15);
        turned.addConstraint(3, 14);
        same("of all, each edge counts twice", degrees(turned), 58);
        turned.removeConstraint(0);
        turned.removeConstraint(0);
        same("and when the fan is back", degrees(turned), 58);
        same("of the most", degrees(States.most()), 84);
    }

    private static int degrees(ConstrainedDelaunay d) {
        int sum = 0;
        for (int p = 0; p < 16; p++) {
            sum += d.degree(p);
        }
        return sum;
    }

    private static void degreeIndex() {
        sentence("19", "Throws `IndexOutOfBoundsException` if there is no such point");
        refusesEach(States::busy, "of 7", INDEX, outside(7), (d, n) -> d.degree(n));
        refusesEach(States::most, "of 16", INDEX, outside(16), (d, n) -> d.degree(n));
        refusesEach(States::empty, "of none", INDEX, outside(0), (d, n) -> d.degree(n));
    }

    private static void neighbour() {
        sentence("20", "Returns a neighbour of a point, that is, another end of an edge that ends at it.",
                "Returns the neighbour.");
        ConstrainedDelaunay d = States.wheel();
        same("of a point on the rim", d.neighbour(15, 0) + " " + d.neighbour(15, 1) + " "
                + d.neighbour(15, 2), "0 1 14");
        same("of an end of a line", States.longLine().neighbour(15, 0), 14);
        same("of two", Picture.made(0, 0, 100, 100).neighbour(0, 0), 1);
        same("by a constraint", States.busy().neighbour(0, 1), 2);
    }

    private static void neighbourOrder() {
        sentence("20", "- `index`: the index in ascending order of the neighbours, from 0");
        for (int i = 0; i < 15; i++) {
            same("round the wheel", States.wheel().neighbour(0, i), i + 1);
            same("in the fan", States.rim().neighbour(0, i), i + 1);
        }
        same("0 of a last point", States.rim().neighbour(15, 0), 0);
        same("1 of a last point", States.rim().neighbour(15, 1), 14);
    }

    private static void neighbourIndex() {
        sentence("20", "Throws `IndexOutOfBoundsException` if there is no such point");
        refusesEach(States::busy, "of 7", INDEX, outside(7), (d, n) -> d.neighbour(n, 0));
        refusesEach(States::wheel, "of 16", INDEX, outside(16), (d, n) -> d.neighbour(n, 0));
        refusesEach(States::empty, "of none", INDEX, outside(0), (d, n) -> d.neighbour(n, 0));
    }

    private static void neighbourMissing() {
        sentence("20", "Throws `NoSuchElementException` if there is no such index");
        refusesEach(States::wheel, "of 15", MISSING, outside(15), (d, n) -> d.neighbour(0, n));
        refusesEach(States::wheel, "of 3", MISSING, outside(3), (d, n) -> d.neighbour(15, n));
        refusesEach(States::rim, "of 2", MISSING, outside(2), (d, n) -> d.neighbour(15, n));
        refusesEach(States::line, "of 1", MISSING, outside(1), (d, n) -> d.neighbour(0, n));
        refusesEach(States::one, "of none", MISSING, outside(0), (d, n) -> d.neighbour(0, n));
    }

    private static void hullSize() {
        sentence("21", "Returns the number of hull edges.");
        same("no points", States.empty().hullSize(), 0);
        same("one point", States.one().hullSize(), 0);
        same("two points", Picture.made(0, 0, 100, 100).hullSize(), 0);
        same("on a line", States.longLine().hullSize(), 0);
        same("the least", States.most().hullSize(), 3);
        same("the most", States.rim().hullSize(), 16);
        same("all but one", States.wheel().hullSize(), 15);
        ConstrainedDelaunay d = States.longLine();
        d.movePoint(15, 75, 31);
        same("15 of them on a side", d.hullSize(), 16);
    }

    private static void hullPoint() {
        sentence("22", "Returns a point of the hull.", "Returns the point.");
        same("of a triangle", Picture.hull(States.triangle()), " 0 1 2");
        same("of 16", Picture.hull(States.rim()), " 0 1 2 3 4 5 6 7 8 9 10 11 12 13 14 15");
        same("without the middle", Picture.hull(States.wheel()), " 1 2 3 4 5 6 7 8 9 10 11 12 13 14 15");
        same("of the most", Picture.hull(States.most()), " 0 1 2");
    }

    private static void hullOrder() {
        sentence("22", "The ends of hull edges are listed in counterclockwise order, beginning with the"
                + " lowest number.");
        same("added clockwise", Picture.hull(Picture.made(0, 0, 0, 100, 100, 100, 100, 0)), " 0 3 2 1");
        same("the lowest lies within", Picture.hull(Picture.made(50, 50, 0, 0, 0, 100, 100, 100, 100, 0)),
                " 1 4 3 2");
        same("the list goes on from the greatest", Picture.hull(Picture.made(100, 100, 0, 0, 100, 0, 0, 100)),
                " 0 3 1 2");
        same("points on the sides", Picture.hull(Picture.made(50, 0, 0, 0, 100, 0, 50, 50, 25, 25, 75, 25,
                50, 1, 1, 0)), " 0 2 5 3 4 1 7");
        ConstrainedDelaunay d = States.longLine();
        d.movePoint(0, 0, 1);
        same("a long side", Picture.hull(d), " 0 1 2 3 4 5 6 7 8 9 10 11 12 13 14 15");
        ConstrainedDelaunay below = States.longLine();
        below.movePoint(15, 75, 31);
        same("a long side, from the other", Picture.hull(below),
                " 0 1 2 3 4 5 6 7 8 9 10 11 12 13 14 15");
        ConstrainedDelaunay above = States.longLine();
        above.movePoint(15, 75, 29);
        same("a long side, turned", Picture.hull(above), " 0 15 14 13 12 11 10 9 8 7 6 5 4 3 2 1");
    }

    private static void hullFromZero() {
        sentence("22", "- `index`: the index in this order, from 0");
        same("0", States.wheel().hullPoint(0), 1);
        same("14", States.wheel().hullPoint(14), 15);
        same("15", States.rim().hullPoint(15), 15);
    }

    private static void hullPointIndex() {
        sentence("22", "Throws `IndexOutOfBoundsException` if there is no such index");
        refusesEach(States::triangle, "of 3", INDEX, outside(3), (d, n) -> d.hullPoint(n));
        refusesEach(States::most, "of 3 of 16", INDEX, outside(3), (d, n) -> d.hullPoint(n));
        refusesEach(States::rim, "of 16", INDEX, outside(16), (d, n) -> d.hullPoint(n));
        refusesEach(States::line, "on a line", INDEX, outside(0), (d, n) -> d.hullPoint(n));
        refusesEach(States::one, "of one point", INDEX, outside(0), (d, n) -> d.hullPoint(n));
        refusesEach(States::empty, "of none", INDEX, outside(0), (d, n) -> d.hullPoint(n));
    }

    private static void meanDegree() {
        sentence("25", "Returns the mean degree of all points: twice the number of edges divided by the"
                + " number of points, both converted to double.", "Returns the mean degree.");
        same("one point", States.one().meanDegree(), 0.0);
        same("two points", Picture.made(0, 0, 100, 100).meanDegree(), 1.0);
        same("three points", States.triangle().meanDegree(), 2.0);
        same("three on a line", Picture.made(0, 0, 1, 1, 2, 2).meanDegree(), 4.0 / 3.0);
        same("16 on a line", States.longLine().meanDegree(), 30.0 / 16.0);
        same("16 on the hull", States.rim().meanDegree(), 58.0 / 16.0);
        same("the most", States.most().meanDegree(), 84.0 / 16.0);
        ConstrainedDelaunay d = States.wheel();
        d.removePoint(15);
        same("of 15", d.meanDegree(), 56.0 / 15.0);
    }

    private static void meanDegreeMissing() {
        sentence("25", "Throws `NoSuchElementException` if there are no points");
        refuses(States::empty, "a new object", MISSING, d -> d.meanDegree());
        refuses(() -> {
            ConstrainedDelaunay d = States.one();
            d.removePoint(0);
            return d;
        }, "the last point removed", MISSING, d -> d.meanDegree());
    }

    private static void squaredLength() {
        sentence("26", "Returns a squared length that belongs to the edges.", "Returns the number.");
        ConstrainedDelaunay longest = Picture.made(0, 0, 100, 100);
        same("the longest", longest.squaredLength(0) + " " + longest.squaredLength(1) + " "
                + longest.squaredLength(2), "20000 20000 20000");
        ConstrainedDelaunay shortest = Picture.made(100, 99, 100, 100);
        same("the shortest", shortest.squaredLength(0) + " " + shortest.squaredLength(1) + " "
                + shortest.squaredLength(2), "1 1 1");
    }

    private static void squaredLengthWhat() {
        sentence("26", "- `what`: 0 for the least squared length of an edge, 1 for the greatest one, 2 for"
                + " the least sum of the squared lengths of edges that connect all points");
        ConstrainedDelaunay d = States.triangle();
        same("0", d.squaredLength(0), 10000);
        same("1", d.squaredLength(1), 20000);
        same("2", d.squaredLength(2), 20000);
        ConstrainedDelaunay line = States.longLine();
        same("0 on a line", line.squaredLength(0), 29);
        same("1 on a line", line.squaredLength(1), 29);
        same("2 on a line", line.squaredLength(2), 15 * 29);
        ConstrainedDelaunay wheel = States.wheel();
        same("0 of a wheel", wheel.squaredLength(0), 200);
        same("1 of a wheel", wheel.squaredLength(1), 2500);
        same("2 of a wheel", wheel.squaredLength(2), 7 * 200 + 5 * 320 + 1000 + 2000 + 2500);
        ConstrainedDelaunay forced = Picture.made(0, 10, 100, 10, 50, 11, 50, 9);
        forced.addConstraint(0, 1);
        same("only edges count", forced.squaredLength(2), 3 * 2501);
        ConstrainedDelaunay first = Picture.made(0, 0, 1, 0, 50, 100, 100, 0);
        same("the first edge the least", first.squaredLength(0), 1);
        ConstrainedDelaunay second = Picture.made(0, 0, 100, 0, 1, 1);
        same("the second edge the least", second.squaredLength(0), 2);
        ConstrainedDelaunay longer = Picture.made(50, 0, 40, 0, 100, 0, 0, 0);
        same("the second edge the greatest", longer.squaredLength(1), 2500);
        ConstrainedDelaunay back = Picture.made(0, 0, 20, 0, 50, 0, 10, 0);
        same("the tree from greater numbers to lower ones", back.squaredLength(2), 100 + 100 + 900);
        ConstrainedDelaunay fewer = States.longLine();
        fewer.removePoint(0);
        fewer.removePoint(0);
        same("the tree after removals", fewer.squaredLength(2), 13 * 29);
        ConstrainedDelaunay end = Picture.made(0, 0, 1, 0, 100, 0);
        end.removePoint(0);
        same("the greatest after a removal", end.squaredLength(1), 99 * 99);
        ConstrainedDelaunay middle = Picture.made(20, 0, 0, 0, 100, 0);
        middle.removePoint(1);
        same("the tree after a removal", middle.squaredLength(2), 80 * 80);
        ConstrainedDelaunay last = Picture.made(0, 0, 50, 100, 100, 0, 99, 0);
        same("the last edge the least", last.squaredLength(0), 1);
        same("the last edge the greatest", Picture.made(50, 1, 100, 0, 0, 0).squaredLength(1), 10000);
    }

    private static void squaredLengthArgument() {
        sentence("26", "Throws `IllegalArgumentException` if what is out of range");
        refusesEach(States::busy, "what", ARGUMENT, NO_THIRD, (d, n) -> d.squaredLength(n));
        refusesEach(States::most, "what", ARGUMENT, NO_THIRD, (d, n) -> d.squaredLength(n));
        refusesEach(States::line, "what", ARGUMENT, NO_THIRD, (d, n) -> d.squaredLength(n));
    }

    private static void squaredLengthMissing() {
        sentence("26", "Throws `NoSuchElementException` if there are no edges");
        refusesEach(States::empty, "no points", MISSING, new int[] {0, 1, 2}, (d, n) -> d.squaredLength(n));
        refusesEach(States::one, "one point", MISSING, new int[] {0, 1, 2}, (d, n) -> d.squaredLength(n));
        same("two points", Picture.made(0, 0, 0, 1).squaredLength(2), 1);
    }
}
