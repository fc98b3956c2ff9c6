/** Promises 34 to 37: what single changes would do. */
public final class WhatIfTest {
    private WhatIfTest() {
    }

    public static void main(String[] args) {
        cavity();
        cavityRefusals();
        hole();
        holeKnowsPoints();
        crossings();
        effect();
        leavesNoTrace();
        Check.finish();
    }

    private static void cavity() {
        ConstrainedDelaunay d = Picture.square();
        Check.same("34 in the lower one", d.cavity(30, 10), 2);
        Check.same("34 outside, far", d.cavity(100, 20), 0);
        Check.same("34 outside, in the circle of both", d.cavity(41, 20), 2);
        Check.same("34 outside, in one circle of two",
                Picture.made(0, 0, 40, 0, 40, 40, 0, 60).cavity(42, 20), 1);
        Check.same("34 on the circle", Picture.made(0, 0, 40, 0, 40, 40).cavity(0, 40), 0);
        Check.same("34 on an edge", d.cavity(20, 20), 2);
        Check.same("34 on the hull", d.cavity(20, 0), 2);
        d.addConstraint(0, 2);
        Check.same("34 a constraint shields", d.cavity(30, 10), 1);
        Check.same("34 no triangles", Picture.made(0, 0, 9, 9).cavity(9, 0), 0);
        Check.same("34 no points", new ConstrainedDelaunay().cavity(0, 0), 0);
    }

    private static void cavityRefusals() {
        ConstrainedDelaunay d = Picture.square();
        d.addConstraint(0, 2);
        Check.refuses(d, "34 x", IllegalArgumentException.class, () -> d.cavity(101, 0));
        Check.refuses(d, "34 y", IllegalArgumentException.class, () -> d.cavity(0, -1));
        Check.refuses(d, "34 taken", UnsupportedOperationException.class, () -> d.cavity(40, 40));
        Check.refuses(d, "34 on a constraint", UnsupportedOperationException.class,
                () -> d.cavity(1, 1));
        for (int i = 0; i < 12; i++) {
            d.addPoint(60, 5 * i);
        }
        Check.refuses(d, "34 full before taken", IllegalStateException.class, () -> d.cavity(40, 40));
        Check.refuses(d, "34 full before a constraint", IllegalStateException.class,
                () -> d.cavity(1, 1));
        Check.refuses(d, "34 range before full", IllegalArgumentException.class,
                () -> d.cavity(-1, 1));
    }

    private static void hole() {
        ConstrainedDelaunay d = Picture.made(40, 50, 0, 0, 100, 0, 100, 100, 0, 100);
        Check.same("35 the centre", d.hole(0), 2);
        Check.same("35 a corner", d.hole(3), 1);
        Check.same("35 of a triangle", Picture.made(0, 0, 1, 0, 0, 1).hole(1), 0);
        Check.same("35 alone", Picture.made(5, 5).hole(0), 0);
        Check.same("35 an ear", Picture.square().hole(1), 0);
        d.addConstraint(1, 2);
        Check.refuses(d, "35 5", IndexOutOfBoundsException.class, () -> d.hole(5));
        Check.refuses(d, "35 -1", IndexOutOfBoundsException.class, () -> d.hole(-1));
        Check.refuses(d, "35 an end", IllegalStateException.class, () -> d.hole(1));
        Check.refuses(d, "35 the other end", IllegalStateException.class, () -> d.hole(2));
        Check.same("35 no end", d.hole(3), 1);
        Check.same("35 no new triangle", d.hole(4), 0);
    }

    // Without point 0 all numbers are lower by 1, yet the triangles away from it are the same.
    private static void holeKnowsPoints() {
        ConstrainedDelaunay d = Picture.made(0, 50, 40, 0, 40, 100, 60, 50, 100, 40);
        Check.same("35 triangles", Picture.triangles(d), " 0.1.3 0.3.2 1.4.3 2.3.4");
        Check.same("35 only the gap", d.hole(0), 1);
        Check.same("35 of the last number", d.hole(4), 0);
    }

    private static void crossings() {
        ConstrainedDelaunay d = Picture.made(50, 50, 0, 0, 100, 0, 100, 100, 0, 100, 90, 50);
        Check.same("36 edges", Picture.edges(d), " 0-1 0-2 0-3 0-4 0-5 1-2 1-4 2-3 2-5 3-4 3-5");
        Check.same("36 an edge itself", d.crossings(0, 5), 1);
        Check.same("36 along two edges", d.crossings(1, 3), 2);
        Check.same("36 turned", d.crossings(3, 1), 2);
        Check.same("36 across", d.crossings(1, 5), 1);
        Check.same("36 a hull edge", d.crossings(2, 3), 1);
        Check.same("36 over a point and an edge", d.crossings(4, 2), 2);
        ConstrainedDelaunay wide = Picture.made(0, 50, 100, 50, 50, 40, 50, 60, 30, 45, 70, 45);
        Check.same("36 the long way", wide.crossings(0, 1), Picture.edges(wide).contains("2-3") ? 3 : -1);
        Check.refuses(d, "36 a", IndexOutOfBoundsException.class, () -> d.crossings(6, 6));
        Check.refuses(d, "36 b", IndexOutOfBoundsException.class, () -> d.crossings(0, -1));
        Check.refuses(d, "36 the same", IllegalArgumentException.class, () -> d.crossings(2, 2));
        ConstrainedDelaunay line = Picture.made(0, 0, 30, 30, 10, 10, 20, 20);
        Check.same("36 on a line", line.crossings(0, 1), 3);
        Check.same("36 a part of the line", line.crossings(2, 1), 2);
    }

    private static void effect() {
        ConstrainedDelaunay d = Picture.made(0, 10, 100, 10, 50, 11, 50, 9);
        d.addConstraint(0, 2);
        d.addConstraint(0, 1);
        Check.same("37 a hull edge", d.effect(0), 0);
        Check.same("37 the forced one", d.effect(1), 1);
        Check.refuses(d, "37 2", IndexOutOfBoundsException.class, () -> d.effect(2));
        Check.refuses(d, "37 -1", IndexOutOfBoundsException.class, () -> d.effect(-1));
        ConstrainedDelaunay many = Picture.made(0, 50, 100, 50, 30, 52, 70, 52, 30, 48, 70, 48);
        Check.same("37 before", Picture.edges(many), " 0-2 0-4 1-3 1-5 2-3 2-4 3-4 3-5 4-5");
        many.addConstraint(1, 0);
        Check.same("37 after", Picture.edges(many), " 0-1 0-2 0-4 1-2 1-3 1-4 1-5 2-3 4-5");
        Check.same("37 more edges than the constraint", many.effect(0), 3);
    }

    private static void leavesNoTrace() {
        ConstrainedDelaunay d = Picture.square();
        d.addPoint(100, 20);
        d.addConstraint(0, 1);
        String before = Picture.of(d);
        d.cavity(41, 20);
        d.hole(4);
        d.effect(0);
        d.crossings(0, 4);
        Check.same("34 to 37 leave the state", Picture.of(d), before);
        Check.same("34 to 37 are no changes", d.undo(), 5);
        Check.same("34 to 37: what is undone", d.constraintCount() + d.pointCount(), 5);
    }
}
