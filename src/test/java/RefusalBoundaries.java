/** What the description says of exceptions: their order, and that they leave the state unchanged. */
final class RefusalBoundaries extends Boundary {
    private RefusalBoundaries() {
    }

    static void all() {
        unchanged();
        orderForPoints();
        orderForConstraints();
        orderForTheTriangulation();
        orderForLocationAndChanges();
    }

    private static void inOrder() {
        sentence("Description", "The exceptions of a method are checked in the order in which they are"
                + " listed.");
    }

    private static void unchanged() {
        sentence("Description", "A method that throws an exception leaves the state unchanged, unless its"
                + " description says otherwise.");
        refuses(States::busy, "all in a row", INDEX, d -> {
            Looks.outcome(d, e -> e.addPoint(101, 1));
            Looks.outcome(d, e -> e.addPoint(50, 50));
            Looks.outcome(d, e -> e.movePoint(0, 1, 1));
            Looks.outcome(d, e -> e.movePoint(3, 50, 50));
            Looks.outcome(d, e -> e.coordinate(0, 2));
            Looks.outcome(d, e -> e.addConstraint(4, 5));
            Looks.outcome(d, e -> e.removeConstraint(2));
            Looks.outcome(d, e -> e.cavity(50, 50));
            Looks.outcome(d, e -> e.hole(0));
            Looks.outcome(d, e -> e.crossings(1, 1));
            Looks.outcome(d, e -> e.effect(2));
            Looks.outcome(d, e -> e.walk(0, 101, 0, true));
            Looks.outcome(d, e -> e.numberAt(100, 0));
            Looks.outcome(d, e -> e.inCircle(0, 0, 1, 2));
            Looks.outcome(d, e -> e.squaredLength(3));
            d.removePoint(7);
        });
        refuses(States::full, "at the most points, constraints and characters", STATE, d -> {
            Looks.outcome(d, e -> e.addPoint(100, 100));
            Looks.outcome(d, e -> e.addConstraint(0, 11));
            Looks.outcome(d, e -> e.cavity(100, 100));
            Looks.outcome(d, e -> e.removePoint(0));
            Looks.outcome(d, e -> e.movePoint(10, 100, 100));
            d.feed('1');
        });
        refuses(States::empty, "of nothing", STATE, d -> {
            Looks.outcome(d, e -> e.meanDegree());
            Looks.outcome(d, e -> e.squaredLength(0));
            Looks.outcome(d, e -> e.restore());
            d.undo();
        });
    }

    private static void orderForPoints() {
        inOrder();
        refuses(States::full, "addPoint: range, full", ARGUMENT, d -> d.addPoint(0, 101));
        refuses(States::full, "addPoint: full, at a point", STATE, d -> d.addPoint(50, 50));
        refuses(States::full, "addPoint: full, on a constraint", STATE, d -> d.addPoint(50, 20));
        refuses(States::busy, "movePoint: index, range", INDEX, d -> d.movePoint(7, -1, 0));
        refuses(States::busy, "movePoint: index, at a point", INDEX, d -> d.movePoint(-1, 10, 10));
        refuses(States::busy, "movePoint: index, on a constraint", INDEX, d -> d.movePoint(7, 50, 50));
        refuses(States::busy, "movePoint: range x, end", ARGUMENT, d -> d.movePoint(0, 101, 0));
        refuses(States::busy, "movePoint: range y, end", ARGUMENT, d -> d.movePoint(2, 0, -1));
        refuses(States::busy, "movePoint: end, at a point", STATE, d -> d.movePoint(0, 90, 10));
        refuses(States::busy, "movePoint: end, on another constraint", STATE, d -> d.movePoint(2, 50, 10));
        refuses(States::busy, "movePoint: end, on its constraint", STATE, d -> d.movePoint(2, 50, 50));
        refuses(States::busy, "coordinate: index, axis", INDEX, d -> d.coordinate(7, 2));
        refuses(States::empty, "coordinate: no points, axis", INDEX, d -> d.coordinate(0, -1));
    }

    private static void orderForConstraints() {
        inOrder();
        refuses(States::busy, "addConstraint: index, same", INDEX, d -> d.addConstraint(7, 7));
        refuses(States::busy, "addConstraint: index, same, below", INDEX, d -> d.addConstraint(-1, -1));
        refuses(States::full, "addConstraint: index of a, full", INDEX, d -> d.addConstraint(16, 0));
        refuses(States::full, "addConstraint: index of b, full", INDEX, d -> d.addConstraint(0, 16));
        refuses(States::full, "addConstraint: same, full", ARGUMENT, d -> d.addConstraint(11, 11));
        refuses(States::full, "addConstraint: full, there", STATE, d -> d.addConstraint(10, 0));
        refuses(States::full, "addConstraint: full, over a point", STATE, d -> d.addConstraint(12, 14));
        refuses(States::full, "addConstraint: full, across", STATE, d -> d.addConstraint(10, 12));
        refuses(States::busy, "constraintEnd: index, which", INDEX, d -> d.constraintEnd(2, 2));
        refuses(States::empty, "constraintEnd: no constraints, which", INDEX, d -> d.constraintEnd(0, -1));
    }

    private static void orderForTheTriangulation() {
        inOrder();
        refuses(States::most, "corner: index, which", INDEX, d -> d.corner(27, 3));
        refuses(States::line, "corner: no triangles, which", INDEX, d -> d.corner(0, -1));
        refuses(States::most, "beyond: index, which", INDEX, d -> d.beyond(-1, 3));
        refuses(States::line, "beyond: no triangles, which", INDEX, d -> d.beyond(0, -1));
        refuses(States::most, "edgeEnd: index, which", INDEX, d -> d.edgeEnd(42, 2));
        refuses(States::one, "edgeEnd: no edges, which", INDEX, d -> d.edgeEnd(0, -1));
        refuses(States::busy, "edgeBetween: index of a, no edge", INDEX, d -> d.edgeBetween(7, 0));
        refuses(States::busy, "edgeBetween: index of both, no edge", INDEX, d -> d.edgeBetween(7, 7));
        refuses(States::busy, "neighbour: index of the point, index", INDEX, d -> d.neighbour(7, -1));
        refuses(States::empty, "neighbour: no points, index", INDEX, d -> d.neighbour(0, 16));
        refuses(States::empty, "squaredLength: what, no edges", ARGUMENT, d -> d.squaredLength(3));
        refuses(States::one, "squaredLength: what below, no edges", ARGUMENT, d -> d.squaredLength(-1));
        refuses(States::line, "inCircle: index of d, on a line", INDEX, d -> d.inCircle(0, 1, 2, 4));
        refuses(States::line, "inCircle: index of a, the same", INDEX, d -> d.inCircle(4, 1, 1, 0));
        refuses(States::line, "isGood: index, no inner edge", INDEX, d -> d.isGood(3));
    }

    private static void orderForLocationAndChanges() {
        inOrder();
        refuses(States::one, "numberAt: range, outside", ARGUMENT, d -> d.numberAt(101, 100));
        refuses(States::most, "walk: index, range", INDEX, d -> d.walk(27, 101, -1, true));
        refuses(States::line, "walk: no triangles, range", INDEX, d -> d.walk(0, -1, 0, false));
        refuses(States::full, "cavity: range, full", ARGUMENT, d -> d.cavity(-1, 50));
        refuses(States::full, "cavity: full, at a point", STATE, d -> d.cavity(50, 50));
        refuses(States::full, "cavity: full, on a constraint", STATE, d -> d.cavity(50, 20));
        refuses(States::busy, "crossings: index, same", INDEX, d -> d.crossings(7, 7));
        refuses(States::empty, "crossings: no points, same", INDEX, d -> d.crossings(0, 0));
    }
}
