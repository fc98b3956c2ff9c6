/** Promises 1 to 6, sentence by sentence. */
final class PointBoundaries extends Boundary {
    private PointBoundaries() {
    }

    static void all() {
        newObject();
        addPointAdds();
        addPointReturns();
        addPointRange();
        addPointFull();
        addPointTaken();
        removePointRemoves();
        removePointRenumbers();
        removePointReturns();
        removePointIndex();
        removePointEnd();
        movePointMoves();
        movePointReturns();
        movePointIndex();
        movePointRange();
        movePointEnd();
        movePointTaken();
        pointCount();
        coordinate();
        coordinateAxis();
        coordinateIndex();
        coordinateArgument();
    }

    private static void newObject() {
        sentence("1", "Creates a triangulation without points and constraints.");
        ConstrainedDelaunay d = new ConstrainedDelaunay();
        same("picture", Picture.of(d), "points constraints triangles edges hull");
        same("pointCount", d.pointCount(), 0);
        same("constraintCount", d.constraintCount(), 0);
        same("triangleCount", d.triangleCount(), 0);
        same("edgeCount", d.edgeCount(), 0);
        same("hullSize", d.hullSize(), 0);
        same("forcedConstraints", d.forcedConstraints(), 0);
        same("kindAt", d.kindAt(0, 0) + d.kindAt(50, 50) + d.kindAt(100, 100), 0);
        same("cavity", d.cavity(50, 50), 0);
        same("the input is empty", d.readInput(), -100);
        same("its length", d.feed('1'), 1);
        same("nothing to save", d.save(), 0);
        refuses(States::empty, "undo", STATE, e -> e.undo());
        refuses(States::empty, "restore", STATE, e -> e.restore());
        same("objects are apart", Picture.square().pointCount() + d.pointCount(), 4);
        same("the first point", d.addPoint(0, 0), 0);
    }

    // ---- addPoint

    private static void addPointAdds() {
        sentence("2", "Adds a point.");
        ConstrainedDelaunay d = new ConstrainedDelaunay();
        d.addPoint(100, 0);
        same("the first", Picture.points(d), " 100,0");
        d.addPoint(0, 100);
        same("the second behind it", Picture.points(d), " 100,0 0,100");
        d.addPoint(0, 0);
        same("the least position", Picture.points(d), " 100,0 0,100 0,0");
        d.addPoint(100, 100);
        same("the greatest position", Picture.points(d), " 100,0 0,100 0,0 100,100");
        same("the triangulation has it", Picture.triangles(d), " 0.1.2 0.3.1");
        ConstrainedDelaunay busy = States.busy();
        busy.addPoint(100, 0);
        same("the others stay", Picture.plan(busy), Picture.plan(States.busy()).replace(" constraints",
                " 100,0 constraints"));
    }

    private static void addPointReturns() {
        sentence("2", "Returns the number of the point.");
        ConstrainedDelaunay d = new ConstrainedDelaunay();
        for (int i = 0; i < 16; i++) {
            same("from 0 to 15", d.addPoint(100 - i, i * i % 101), i);
        }
        d.removePoint(0);
        same("the last number again", d.addPoint(1, 100), 15);
        d.undo();
        d.undo();
        d.removePoint(15);
        d.removePoint(14);
        same("behind those that remain", d.addPoint(1, 100), 14);
    }

    private static void addPointRange() {
        sentence("2", "Throws `IllegalArgumentException` if a coordinate is out of range");
        refusesEach(States::busy, "x", ARGUMENT, NO_COORDINATE, (d, n) -> d.addPoint(n, 50));
        refusesEach(States::busy, "y", ARGUMENT, NO_COORDINATE, (d, n) -> d.addPoint(50, n));
        refusesEach(States::busy, "both", ARGUMENT, NO_COORDINATE, (d, n) -> d.addPoint(n, n));
        refusesEach(States::empty, "x of the first", ARGUMENT, NO_COORDINATE, (d, n) -> d.addPoint(n, 0));
        refusesEach(States::empty, "y of the first", ARGUMENT, NO_COORDINATE, (d, n) -> d.addPoint(0, n));
        same("0 and 100 are in range", Picture.points(Picture.made(0, 0, 0, 100, 100, 0, 100, 100)),
                " 0,0 0,100 100,0 100,100");
    }

    private static void addPointFull() {
        sentence("2", "Throws `IllegalStateException` if there are 16 points");
        refuses(States::full, "a free position", STATE, d -> d.addPoint(100, 100));
        refuses(States::most, "in a triangle", STATE, d -> d.addPoint(99, 1));
        refuses(States::longLine, "on the line", STATE, d -> d.addPoint(80, 32));
        ConstrainedDelaunay d = States.most();
        d.removePoint(15);
        same("with 15 points", d.addPoint(99, 1), 15);
    }

    private static void addPointTaken() {
        sentence("2", "Throws `UnsupportedOperationException` if there is a point at this position, or the"
                + " point would lie on a constraint");
        int[][] taken = {{10, 10}, {90, 10}, {90, 90}, {10, 80}, {70, 30}, {30, 70}, {5, 50}};
        int[][] covered = {{11, 11}, {50, 50}, {89, 89}, {11, 10}, {50, 10}, {89, 10}};
        for (int[] at : taken) {
            refuses(States::busy, "at a point", UNSUPPORTED, d -> d.addPoint(at[0], at[1]));
        }
        for (int[] at : covered) {
            refuses(States::busy, "on a constraint", UNSUPPORTED, d -> d.addPoint(at[0], at[1]));
        }
        refuses(States::line, "on a constraint on a line", UNSUPPORTED, d -> d.addPoint(24, 24));
        refuses(States::one, "at the only point", UNSUPPORTED, d -> d.addPoint(50, 50));
        int[][] free = {{9, 9}, {91, 91}, {9, 10}, {91, 10}, {12, 11}, {49, 50}, {50, 9}, {50, 11}, {60, 20},
            {10, 90}};
        for (int[] at : free) {
            same("beside, or beyond the ends", States.busy().addPoint(at[0], at[1]), 7);
        }
        same("on an edge that is no constraint", States.line().addPoint(26, 26), 4);
        ConstrainedDelaunay d = States.line();
        d.removeConstraint(0);
        same("after the constraint has gone", d.addPoint(24, 24), 4);
    }

    // ---- removePoint

    private static void removePointRemoves() {
        sentence("3", "Removes a point.");
        ConstrainedDelaunay d = Picture.square();
        d.removePoint(3);
        same("the last", Picture.points(d), " 0,0 40,0 40,40");
        d.removePoint(0);
        same("the first", Picture.points(d), " 40,0 40,40");
        same("the triangle goes", Picture.triangles(d) + Picture.edges(d), " 0-1");
        d.removePoint(0);
        d.removePoint(0);
        same("none is left", Picture.of(d), "points constraints triangles edges hull");
        ConstrainedDelaunay full = States.full();
        full.removePoint(15);
        same("of 16", Picture.points(full) + " 90,90", Picture.points(States.full()));
        same("the constraints stay", Picture.constraints(full), Picture.constraints(States.full()));
        same("its position is free", full.addPoint(90, 90), 15);
        full.removePoint(15);
        full.movePoint(11, 80, 90);
        full.movePoint(12, 100, 90);
        full.removeConstraint(9);
        same("a constraint may lie there", full.addConstraint(11, 12), 9);
        ConstrainedDelaunay line = States.longLine();
        line.movePoint(15, 2, 2);
        line.removePoint(15);
        same("no edge is left of it", Picture.edges(line), " 0-1 1-2 2-3 3-4 4-5 5-6 6-7 7-8 8-9 9-10"
                + " 10-11 11-12 12-13 13-14");
        same("nor a place", line.kindAt(2, 2) + line.kindAt(1, 1), 0);
        ConstrainedDelaunay two = Picture.made(0, 0, 100, 100);
        two.removePoint(0);
        same("of two, the edge goes", two.kindAt(50, 50) + two.edgeCount(), 0);
        ConstrainedDelaunay rim = States.rim();
        rim.removePoint(15);
        same("of 16 on a circle", rim.kindAt(96, 36) + rim.kindAt(94, 28) + rim.triangleCount(), 13);
    }

    private static void removePointRenumbers() {
        sentence("3", "The points with higher numbers get numbers that are lower by 1.");
        ConstrainedDelaunay lowest = States.longLine();
        lowest.removePoint(0);
        ConstrainedDelaunay highest = States.longLine();
        highest.removePoint(15);
        ConstrainedDelaunay middle = States.longLine();
        middle.removePoint(7);
        for (int p = 0; p < 15; p++) {
            same("without the lowest", lowest.coordinate(p, 0), 5 * p + 5);
            same("without the highest", highest.coordinate(p, 0), 5 * p);
            same("without one between", middle.coordinate(p, 0), p < 7 ? 5 * p : 5 * p + 5);
        }
        same("edges", middle.edgeEnd(13, 0) + "-" + middle.edgeEnd(13, 1), "13-14");
        ConstrainedDelaunay d = States.busy();
        d.removePoint(3);
        same("constraints of lower numbers stay", Picture.constraints(d), " 0-2 0-1");
        d.addConstraint(5, 4);
        d.addConstraint(3, 2);
        d.removeConstraint(0);
        d.removeConstraint(0);
        d.removePoint(1);
        same("constraints of higher numbers follow", Picture.constraints(d), " 3-4 1-2");
    }

    private static void removePointReturns() {
        sentence("3", "Returns the number of points that remain.");
        ConstrainedDelaunay d = States.longLine();
        for (int left = 15; left >= 0; left--) {
            same("down to none", d.removePoint(left / 2), left);
        }
    }

    private static void removePointIndex() {
        sentence("3", "Throws `IndexOutOfBoundsException` if there is no such point");
        refusesEach(States::busy, "of 7", INDEX, outside(7), (d, n) -> d.removePoint(n));
        refusesEach(States::most, "of 16", INDEX, outside(16), (d, n) -> d.removePoint(n));
        refusesEach(States::empty, "of none", INDEX, outside(0), (d, n) -> d.removePoint(n));
    }

    private static void removePointEnd() {
        sentence("3", "Throws `IllegalStateException` if the point is an end of a constraint");
        refusesEach(States::busy, "an end", STATE, new int[] {0, 1, 2}, (d, n) -> d.removePoint(n));
        refusesEach(States::full, "an end", STATE, new int[] {0, 1, 2, 3, 4, 5, 6, 7, 8, 9, 10},
                (d, n) -> d.removePoint(n));
        refusesEach(States::line, "an end", STATE, new int[] {0, 3}, (d, n) -> d.removePoint(n));
        same("no end", States.full().removePoint(11), 15);
        ConstrainedDelaunay d = States.busy();
        d.removeConstraint(1);
        same("an end no more", d.removePoint(1), 6);
        refuses(() -> {
            ConstrainedDelaunay e = States.busy();
            e.removeConstraint(1);
            return e;
        }, "still an end of another one", STATE, e -> e.removePoint(0));
    }

    // ---- movePoint

    private static void movePointMoves() {
        sentence("4", "Moves a point to another position, or to its own one.");
        int[][] positions = {{0, 0}, {0, 100}, {100, 0}, {100, 100}, {11, 80}, {10, 79}, {80, 9}, {9, 9}};
        for (int[] at : positions) {
            ConstrainedDelaunay d = States.busy();
            d.movePoint(3, at[0], at[1]);
            same("another position", Picture.points(d), " 10,10 90,10 90,90 " + at[0] + "," + at[1]
                    + " 70,30 30,70 5,50");
        }
        ConstrainedDelaunay d = States.busy();
        String before = Picture.of(d);
        d.movePoint(6, 5, 50);
        same("its own one", Picture.of(d), before);
        ConstrainedDelaunay one = States.one();
        one.movePoint(0, 100, 0);
        same("the only one", Picture.points(one), " 100,0");
        ConstrainedDelaunay flat = States.triangle();
        flat.movePoint(2, 50, 0);
        same("onto the line of the others", Picture.of(flat),
                "points 0,0 100,0 50,0 constraints triangles edges 0-2 1-2 hull");
        flat.movePoint(2, 50, 1);
        same("off the line", Picture.triangles(flat), " 0.1.2");
    }

    private static void movePointReturns() {
        sentence("4", "Returns whether the position changes.");
        ConstrainedDelaunay d = States.busy();
        same("own", d.movePoint(3, 10, 80), false);
        same("x by 1", d.movePoint(3, 9, 80), true);
        same("y by 1", d.movePoint(3, 9, 81), true);
        same("own again", d.movePoint(3, 9, 81), false);
        same("turned", d.movePoint(3, 81, 9), true);
        same("full, own", States.full().movePoint(15, 90, 90), false);
        same("full, other", States.full().movePoint(15, 90, 91), true);
        same("the only one, own", States.one().movePoint(0, 50, 50), false);
        same("where the former position was", d.movePoint(3, 10, 80), true);
    }

    private static void movePointIndex() {
        sentence("4", "Throws `IndexOutOfBoundsException` if there is no such point");
        refusesEach(States::busy, "of 7", INDEX, outside(7), (d, n) -> d.movePoint(n, 1, 1));
        refusesEach(States::full, "of 16", INDEX, outside(16), (d, n) -> d.movePoint(n, 1, 1));
        refusesEach(States::empty, "of none", INDEX, outside(0), (d, n) -> d.movePoint(n, 0, 0));
    }

    private static void movePointRange() {
        sentence("4", "Throws `IllegalArgumentException` if a coordinate is out of range");
        refusesEach(States::busy, "x", ARGUMENT, NO_COORDINATE, (d, n) -> d.movePoint(3, n, 80));
        refusesEach(States::busy, "y", ARGUMENT, NO_COORDINATE, (d, n) -> d.movePoint(3, 10, n));
        refusesEach(States::full, "both", ARGUMENT, NO_COORDINATE, (d, n) -> d.movePoint(15, n, n));
    }

    private static void movePointEnd() {
        sentence("4", "Throws `IllegalStateException` if the point is an end of a constraint");
        refusesEach(States::busy, "to a free position", STATE, new int[] {0, 1, 2},
                (d, n) -> d.movePoint(n, 0, 100));
        refusesEach(States::full, "to a free position", STATE, new int[] {0, 1, 5, 10},
                (d, n) -> d.movePoint(n, 100, 100));
        refuses(States::busy, "to its own position", STATE, d -> d.movePoint(2, 90, 90));
        same("no end", States.full().movePoint(11, 100, 100), true);
        ConstrainedDelaunay d = States.line();
        d.removeConstraint(0);
        same("an end no more", d.movePoint(3, 24, 24), true);
    }

    private static void movePointTaken() {
        sentence("4", "Throws `UnsupportedOperationException` if another point is at this position, or the"
                + " point would lie on a constraint");
        int[][] taken = {{10, 10}, {90, 10}, {90, 90}, {70, 30}, {30, 70}, {5, 50}};
        int[][] covered = {{11, 11}, {50, 50}, {89, 89}, {11, 10}, {50, 10}, {89, 10}};
        for (int[] at : taken) {
            refuses(States::busy, "at another", UNSUPPORTED, d -> d.movePoint(3, at[0], at[1]));
        }
        for (int[] at : covered) {
            refuses(States::busy, "on a constraint", UNSUPPORTED, d -> d.movePoint(3, at[0], at[1]));
        }
        refuses(States::line, "on a constraint on a line", UNSUPPORTED, d -> d.movePoint(1, 1, 1));
        refuses(States::full, "at another of 16", UNSUPPORTED, d -> d.movePoint(15, 60, 90));
        same("beyond the end", States.line().movePoint(1, 26, 26), true);
        same("beside", States.busy().movePoint(3, 12, 11), true);
        same("at 16 points", States.full().movePoint(15, 100, 100), true);
    }

    // ---- pointCount and coordinate

    private static void pointCount() {
        sentence("5", "Returns the number of points.");
        same("none", States.empty().pointCount(), 0);
        same("one", States.one().pointCount(), 1);
        same("16", States.full().pointCount(), 16);
        ConstrainedDelaunay d = States.most();
        d.removePoint(3);
        same("15", d.pointCount(), 15);
        d.undo();
        same("16 again", d.pointCount(), 16);
    }

    private static void coordinate() {
        sentence("6", "Returns a coordinate of a point.", "Returns the coordinate.");
        ConstrainedDelaunay d = Picture.made(0, 100, 100, 0, 0, 1, 99, 100);
        same("all", Picture.points(d), " 0,100 100,0 0,1 99,100");
        same("the first of 16", States.full().coordinate(0, 1), 50);
        same("the last of 16", States.longLine().coordinate(15, 0), 75);
    }

    private static void coordinateAxis() {
        sentence("6", "- `axis`: 0 for the x coordinate, 1 for the y coordinate");
        ConstrainedDelaunay d = Picture.made(3, 100);
        same("0", d.coordinate(0, 0), 3);
        same("1", d.coordinate(0, 1), 100);
    }

    private static void coordinateIndex() {
        sentence("6", "Throws `IndexOutOfBoundsException` if there is no such point");
        refusesEach(States::busy, "of 7", INDEX, outside(7), (d, n) -> d.coordinate(n, 0));
        refusesEach(States::full, "of 16", INDEX, outside(16), (d, n) -> d.coordinate(n, 1));
        refusesEach(States::empty, "of none", INDEX, outside(0), (d, n) -> d.coordinate(n, 0));
    }

    private static void coordinateArgument() {
        sentence("6", "Throws `IllegalArgumentException` if axis is neither 0 nor 1");
        refusesEach(States::busy, "axis", ARGUMENT, NO_BIT, (d, n) -> d.coordinate(0, n));
        refusesEach(States::full, "axis", ARGUMENT, NO_BIT, (d, n) -> d.coordinate(15, n));
    }
}
