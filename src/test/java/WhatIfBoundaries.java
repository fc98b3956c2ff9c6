/** Promises 34 to 37, sentence by sentence. */
final class WhatIfBoundaries extends Boundary {
    private WhatIfBoundaries() {
    }

    static void all() {
        cavity();
        cavityRange();
        cavityFull();
        cavityTaken();
        hole();
        holeIndex();
        holeEnd();
        crossings();
        crossingsAlong();
        crossingsIndex();
        crossingsSame();
        effect();
        effectIndex();
    }

    private static void cavity() {
        sentence("34", "Returns how many of the present triangles would not be triangles any more if a"
                + " point was added.", "Returns the number of triangles.");
        same("no points", States.empty().cavity(0, 0), 0);
        same("one point", States.one().cavity(100, 100), 0);
        same("no triangles", States.line().cavity(100, 0), 0);
        same("still none", States.line().cavity(60, 60), 0);
        same("the only one", States.triangle().cavity(1, 1), 1);
        same("on its hull", States.triangle().cavity(50, 0), 1);
        same("beyond its hull, on the circle", States.triangle().cavity(100, 100), 0);
        same("beyond its hull, inside the circle", States.triangle().cavity(99, 99), 1);
        same("in one of two", Picture.square().cavity(39, 1), 2);
        ConstrainedDelaunay fifteen = States.rim();
        fifteen.removePoint(15);
        same("all 13", fifteen.cavity(50, 50), 13);
        same("none", fifteen.cavity(98, 36), 0);
        same("none, far off", fifteen.cavity(100, 0), 0);
        ConstrainedDelaunay shield = Picture.square();
        shield.addConstraint(0, 2);
        same("only on this side of a constraint", shield.cavity(39, 1), 1);
        String before = Looks.after(States::busy, d -> { });
        same("nothing changes", Looks.after(States::busy, d -> d.cavity(60, 20)), before);
    }

    private static void cavityRange() {
        sentence("34", "Throws `IllegalArgumentException` if a coordinate is out of range");
        refusesEach(States::busy, "x", ARGUMENT, NO_COORDINATE, (d, n) -> d.cavity(n, 50));
        refusesEach(States::busy, "y", ARGUMENT, NO_COORDINATE, (d, n) -> d.cavity(50, n));
        refusesEach(States::empty, "of nothing", ARGUMENT, NO_COORDINATE, (d, n) -> d.cavity(n, n));
        same("0 and 100 are in range", States.busy().cavity(0, 100) >= 0 && States.busy().cavity(100, 0) >= 0,
                true);
    }

    private static void cavityFull() {
        sentence("34", "Throws `IllegalStateException` if there are 16 points");
        refuses(States::full, "a free position", STATE, d -> d.cavity(100, 100));
        refuses(States::most, "in a triangle", STATE, d -> d.cavity(99, 1));
        refuses(States::longLine, "on the line", STATE, d -> d.cavity(80, 32));
        ConstrainedDelaunay d = States.rim();
        d.removePoint(0);
        same("with 15 points", d.cavity(50, 50), 13);
    }

    private static void cavityTaken() {
        sentence("34", "Throws `UnsupportedOperationException` if there is a point at this position, or"
                + " the point would lie on a constraint");
        int[][] taken = {{10, 10}, {90, 10}, {90, 90}, {10, 80}, {70, 30}, {30, 70}, {5, 50}};
        int[][] covered = {{11, 11}, {50, 50}, {89, 89}, {11, 10}, {50, 10}, {89, 10}};
        for (int[] at : taken) {
            refuses(States::busy, "at a point", UNSUPPORTED, d -> d.cavity(at[0], at[1]));
        }
        for (int[] at : covered) {
            refuses(States::busy, "on a constraint", UNSUPPORTED, d -> d.cavity(at[0], at[1]));
        }
        refuses(States::line, "on a constraint on a line", UNSUPPORTED, d -> d.cavity(1, 1));
        refuses(States::one, "at the only point", UNSUPPORTED, d -> d.cavity(50, 50));
        same("beyond the ends", States.busy().cavity(9, 9) >= 0 && States.busy().cavity(91, 10) >= 0, true);
        same("on an edge that is no constraint", States.line().cavity(26, 26), 0);
    }

    private static void hole() {
        sentence("35", "Returns how many triangles there would be after the removal of a point whose"
                + " corners are not the corners of a present triangle.", "Returns the number of"
                + " triangles.");
        same("the only point", States.one().hole(0), 0);
        same("of two", Picture.made(0, 0, 100, 100).hole(1), 0);
        same("on a line", States.line().hole(1), 0);
        same("of a triangle", States.triangle().hole(2), 0);
        same("a line is left", Picture.made(0, 0, 50, 0, 100, 0, 50, 50).hole(3), 0);
        same("the hub of a wheel", States.wheel().hole(0), 13);
        same("a point on its rim", States.wheel().hole(15), 1);
        same("an ear", States.rim().hole(15), 0);
        same("the hub of a fan", States.rim().hole(0), 13);
        same("on a side of the hull", Picture.made(0, 0, 50, 0, 100, 0, 50, 50).hole(1), 1);
        same("of 16", States.most().hole(2) >= 0, true);
        String before = Looks.after(States::busy, d -> { });
        same("nothing changes", Looks.after(States::busy, d -> d.hole(3)), before);
    }

    private static void holeIndex() {
        sentence("35", "Throws `IndexOutOfBoundsException` if there is no such point");
        refusesEach(States::busy, "of 7", INDEX, outside(7), (d, n) -> d.hole(n));
        refusesEach(States::most, "of 16", INDEX, outside(16), (d, n) -> d.hole(n));
        refusesEach(States::empty, "of none", INDEX, outside(0), (d, n) -> d.hole(n));
    }

    private static void holeEnd() {
        sentence("35", "Throws `IllegalStateException` if the point is an end of a constraint");
        refusesEach(States::busy, "an end", STATE, new int[] {0, 1, 2}, (d, n) -> d.hole(n));
        refusesEach(States::full, "an end", STATE, new int[] {0, 1, 5, 10}, (d, n) -> d.hole(n));
        refusesEach(States::line, "an end", STATE, new int[] {0, 3}, (d, n) -> d.hole(n));
        same("no end", States.line().hole(2), 0);
        ConstrainedDelaunay d = States.line();
        d.removeConstraint(0);
        same("an end no more", d.hole(3), 0);
    }

    private static void crossings() {
        sentence("36", "Returns how many edges cross the segment between two points.",
                "Returns the number of edges.");
        ConstrainedDelaunay fan = States.rim();
        same("from 1 across the whole fan", fan.crossings(1, 15), 13);
        same("turned", fan.crossings(15, 1), 13);
        same("one edge", fan.crossings(1, 3), 1);
        same("spokes that end on the segment do not cross it", States.wheel().crossings(1, 11), 2);
        same("spokes that end beside it do", States.wheel().crossings(1, 10), 8);
        ConstrainedDelaunay square = Picture.square();
        same("the other diagonal", square.crossings(1, 3), 1);
        ConstrainedDelaunay touch = Picture.made(0, 0, 100, 0, 50, 0, 50, 50);
        same("edges that end on it", touch.crossings(0, 1), 2);
        ConstrainedDelaunay past = Picture.made(0, 0, 60, 0, 30, 30, 30, 10);
        same("edges that end at its ends", past.crossings(2, 3), 1);
    }

    private static void crossingsAlong() {
        sentence("36", "An edge between these two points counts as well, as does each edge that lies along"
                + " the segment.");
        same("an edge", States.rim().crossings(0, 15), 1);
        same("an edge, turned", States.rim().crossings(15, 0), 1);
        same("of two points", Picture.made(0, 0, 100, 100).crossings(1, 0), 1);
        same("a whole line", States.longLine().crossings(0, 15), 15);
        same("a part of the line", States.longLine().crossings(3, 5), 2);
        same("an edge on a line", States.longLine().crossings(14, 15), 1);
        same("a side of the hull", Picture.made(0, 0, 50, 0, 100, 0, 50, 50).crossings(2, 0), 2);
        ConstrainedDelaunay mixed = Picture.made(0, 50, 30, 50, 70, 50, 100, 50, 50, 60, 50, 40);
        same("edges", Picture.edges(mixed), " 0-1 0-4 0-5 1-4 1-5 2-3 2-4 2-5 3-4 3-5 4-5");
        same("along two, across one", mixed.crossings(0, 3), 3);
    }

    private static void crossingsIndex() {
        sentence("36", "Throws `IndexOutOfBoundsException` if there is no such point");
        refusesEach(States::busy, "a of 7", INDEX, outside(7), (d, n) -> d.crossings(n, 0));
        refusesEach(States::busy, "b of 7", INDEX, outside(7), (d, n) -> d.crossings(0, n));
        refusesEach(States::most, "a of 16", INDEX, outside(16), (d, n) -> d.crossings(n, 15));
        refusesEach(States::most, "b of 16", INDEX, outside(16), (d, n) -> d.crossings(15, n));
        refusesEach(States::empty, "of none", INDEX, outside(0), (d, n) -> d.crossings(n, 1));
    }

    private static void crossingsSame() {
        sentence("36", "Throws `IllegalArgumentException` if a and b are the same");
        refusesEach(States::busy, "same", ARGUMENT, new int[] {0, 1, 2, 3, 4, 5, 6},
                (d, n) -> d.crossings(n, n));
        refuses(States::one, "the only point", ARGUMENT, d -> d.crossings(0, 0));
        refuses(States::full, "the last point", ARGUMENT, d -> d.crossings(15, 15));
    }

    private static void effect() {
        sentence("37", "Returns how many edges there are now that would not be edges without a constraint.",
                "Returns the number of edges.");
        same("on a line", States.line().effect(0), 0);
        ConstrainedDelaunay two = Picture.made(0, 0, 100, 100);
        two.addConstraint(0, 1);
        same("the only edge", two.effect(0), 0);
        ConstrainedDelaunay square = Picture.square();
        square.addConstraint(0, 1);
        square.addConstraint(0, 2);
        same("on the hull", square.effect(0), 0);
        same("an edge anyway", square.effect(1), 0);
        square.removeConstraint(1);
        square.addConstraint(1, 3);
        same("itself alone", square.effect(1), 1);
        ConstrainedDelaunay many = Picture.made(0, 50, 100, 50, 30, 52, 70, 52, 30, 48, 70, 48);
        many.addConstraint(1, 0);
        same("more than itself", many.effect(0), 3);
        ConstrainedDelaunay fan = States.rim();
        fan.addConstraint(1, 15);
        same("a whole new fan", fan.effect(0), 13);
        same("the last of ten", States.full().effect(9) >= 0, true);
        String before = Looks.after(States::busy, d -> { });
        same("nothing changes", Looks.after(States::busy, d -> d.effect(1)), before);
    }

    private static void effectIndex() {
        sentence("37", "Throws `IndexOutOfBoundsException` if there is no such constraint");
        refusesEach(States::busy, "of 2", INDEX, outside(2), (d, n) -> d.effect(n));
        refusesEach(States::full, "of 10", INDEX, outside(10), (d, n) -> d.effect(n));
        refusesEach(States::most, "of none", INDEX, outside(0), (d, n) -> d.effect(n));
        refusesEach(States::empty, "of nothing", INDEX, outside(0), (d, n) -> d.effect(n));
    }
}
