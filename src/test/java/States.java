/** States in which calls are refused; the names that the tests use tell what is special in each. */
final class States {
    private States() {
    }

    static ConstrainedDelaunay empty() {
        return new ConstrainedDelaunay();
    }

    static ConstrainedDelaunay one() {
        return Picture.made(50, 50);
    }

    static ConstrainedDelaunay triangle() {
        return Picture.made(0, 0, 100, 0, 0, 100);
    }

    /** Seven points (0, 1 and 2 are ends), two constraints, 14 changes, some input, another state saved. */
    static ConstrainedDelaunay busy() {
        ConstrainedDelaunay d = Picture.made(10, 10, 90, 10, 90, 90, 10, 90);
        d.addConstraint(2, 0);
        d.save();
        d.addPoint(70, 30);
        d.addPoint(30, 60);
        d.addConstraint(0, 1);
        d.movePoint(3, 10, 80);
        d.movePoint(5, 30, 70);
        d.addPoint(50, 20);
        d.movePoint(6, 60, 20);
        d.addPoint(5, 50);
        d.removePoint(6);
        feed(d, "7,8;9");
        return d;
    }

    /** 16 points, 10 constraints from point 0 to points 1 to 10, 60 characters, 12 changes to undo. */
    static ConstrainedDelaunay full() {
        ConstrainedDelaunay d = Picture.made(50, 50);
        for (int i = 0; i <= 10; i++) {
            d.addPoint(10 * i, 1 - i % 2);
        }
        d.save();
        for (int i = 0; i < 4; i++) {
            d.addPoint(30 * i, 90);
        }
        for (int i = 1; i <= 10; i++) {
            d.addConstraint(0, i);
        }
        feed(d, "0,0;".repeat(15));
        return d;
    }

    /** Four points on a line: the edges are 0-3, 1-2 and 1-3, and 0-3 is a constraint. */
    static ConstrainedDelaunay line() {
        ConstrainedDelaunay d = Picture.made(0, 0, 50, 50, 100, 100, 25, 25);
        d.addConstraint(3, 0);
        return d;
    }

    /** Points 0 to 15 from left to right on a line. */
    static ConstrainedDelaunay longLine() {
        ConstrainedDelaunay d = new ConstrainedDelaunay();
        for (int i = 0; i < 16; i++) {
            d.addPoint(5 * i, 2 * i);
        }
        return d;
    }

    /** The most points and triangles: three points on the hull, 13 within. */
    static ConstrainedDelaunay most() {
        ConstrainedDelaunay d = triangle();
        for (int i = 0; i < 13; i++) {
            d.addPoint(2 + 3 * i, 1 + 7 * i % 40);
        }
        return d;
    }

    /** Point 0 in the middle of a circle, points 1 to 15 on it in counterclockwise order. */
    static ConstrainedDelaunay wheel() {
        return Picture.made(50, 50, 100, 50, 98, 64, 90, 80, 80, 90, 64, 98, 50, 100, 36, 98, 20, 90,
                10, 80, 2, 64, 0, 50, 2, 36, 10, 20, 50, 0, 90, 20);
    }

    /** Points 0 to 15 on a circle in counterclockwise order. */
    static ConstrainedDelaunay rim() {
        ConstrainedDelaunay d = wheel();
        d.removePoint(0);
        d.addPoint(98, 36);
        return d;
    }

    static void feed(ConstrainedDelaunay d, String text) {
        for (int i = 0; i < text.length(); i++) {
            d.feed(text.charAt(i));
        }
    }

    static int read(ConstrainedDelaunay d, String text) {
        feed(d, text);
        return d.readInput();
    }
}
