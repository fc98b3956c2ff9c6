/** Promises 27 to 30: turns, circles, good edges and forced constraints. */
public final class ExactTestsTest {
    private ExactTestsTest() {
    }

    public static void main(String[] args) {
        turn();
        inCircle();
        inCircleFarOut();
        isGood();
        goodOnTheCircle();
        forcedConstraints();
        Check.finish();
    }

    private static void turn() {
        ConstrainedDelaunay d = Picture.made(0, 0, 100, 99, 99, 98, 50, 50);
        Check.same("27 right by a hair", d.turn(0, 1, 2), -1);
        Check.same("27 left by a hair", d.turn(0, 2, 1), 1);
        Check.same("27 left", d.turn(0, 1, 3), 1);
        Check.same("27 twice the same", d.turn(3, 1, 3), 0);
        ConstrainedDelaunay line = Picture.made(10, 1, 30, 3, 90, 9);
        Check.same("27 on a line", line.turn(2, 0, 1), 0);
        Check.refuses(d, "27 a", IndexOutOfBoundsException.class, () -> d.turn(4, 0, 0));
        Check.refuses(d, "27 b", IndexOutOfBoundsException.class, () -> d.turn(0, -1, 0));
        Check.refuses(d, "27 c", IndexOutOfBoundsException.class, () -> d.turn(0, 0, 4));
    }

    private static void inCircle() {
        ConstrainedDelaunay d = Picture.made(0, 0, 40, 0, 40, 40, 0, 40, 1, 39, 0, 41, 20, 20, 80, 0);
        Check.same("28 on", d.inCircle(0, 1, 2, 3), 0);
        Check.same("28 inside", d.inCircle(0, 1, 2, 4), 1);
        Check.same("28 outside", d.inCircle(0, 1, 2, 5), -1);
        Check.same("28 inside, turned", d.inCircle(2, 1, 0, 4), 1);
        Check.same("28 outside, turned", d.inCircle(0, 2, 1, 5), -1);
        Check.same("28 the centre", d.inCircle(3, 1, 2, 6), 1);
        Check.same("28 a corner", d.inCircle(0, 1, 2, 1), 0);
        Check.refuses(d, "28 on a line", ArithmeticException.class, () -> d.inCircle(0, 1, 7, 2));
        Check.refuses(d, "28 the same", ArithmeticException.class, () -> d.inCircle(3, 3, 1, 2));
        Check.refuses(d, "28 a", IndexOutOfBoundsException.class, () -> d.inCircle(8, 0, 1, 2));
        Check.refuses(d, "28 b", IndexOutOfBoundsException.class, () -> d.inCircle(0, 8, 1, 2));
        Check.refuses(d, "28 c", IndexOutOfBoundsException.class, () -> d.inCircle(0, 1, -1, 2));
        Check.refuses(d, "28 d before the line", IndexOutOfBoundsException.class,
                () -> d.inCircle(0, 1, 7, 8));
    }

    private static void inCircleFarOut() {
        ConstrainedDelaunay d = Picture.made(0, 0, 100, 0, 100, 100, 0, 100, 0, 99, 1, 100);
        Check.same("28 corners of the range", d.inCircle(0, 1, 2, 3), 0);
        Check.same("28 one below", d.inCircle(0, 1, 2, 4), 1);
        Check.same("28 one aside", d.inCircle(2, 1, 0, 5), 1);
        ConstrainedDelaunay flat = Picture.made(0, 0, 50, 1, 99, 2, 0, 100, 100, 0);
        Check.same("28 a wide circle, within", flat.inCircle(0, 1, 2, 3), -flat.inCircle(0, 1, 2, 4));
    }

    private static void isGood() {
        ConstrainedDelaunay d = Picture.made(0, 10, 100, 10, 50, 11, 50, 9);
        Check.same("29 edges", Picture.edges(d), " 0-2 0-3 1-2 1-3 2-3");
        Check.same("29 the short one", d.isGood(4), true);
        Check.refuses(d, "29 hull edge", UnsupportedOperationException.class, () -> d.isGood(0));
        d.addConstraint(0, 1);
        Check.same("29 forced edges", Picture.edges(d), " 0-1 0-2 0-3 1-2 1-3");
        Check.same("29 the forced one", d.isGood(0), false);
        Check.refuses(d, "29 5", IndexOutOfBoundsException.class, () -> d.isGood(5));
        Check.refuses(d, "29 -1", IndexOutOfBoundsException.class, () -> d.isGood(-1));
        ConstrainedDelaunay line = Picture.made(0, 0, 1, 1, 2, 2);
        Check.refuses(line, "29 on a line", UnsupportedOperationException.class, () -> line.isGood(0));
    }

    private static void goodOnTheCircle() {
        ConstrainedDelaunay d = Picture.square();
        Check.same("29 without the greatest", d.isGood(d.edgeBetween(0, 2)), true);
        d.addConstraint(1, 3);
        Check.same("29 with the greatest", d.isGood(d.edgeBetween(1, 3)), false);
        ConstrainedDelaunay turned = Picture.made(40, 0, 40, 40, 0, 40, 0, 0);
        turned.addConstraint(1, 3);
        Check.same("29 with the greatest as the higher end", turned.isGood(turned.edgeBetween(3, 1)),
                false);
        Check.same("30 with the greatest", turned.forcedConstraints(), 1);
    }

    private static void forcedConstraints() {
        ConstrainedDelaunay d = Picture.square();
        Check.same("30 none", d.forcedConstraints(), 0);
        d.addConstraint(0, 2);
        Check.same("30 a good one", d.forcedConstraints(), 0);
        d.addConstraint(0, 1);
        Check.same("30 a hull edge", d.forcedConstraints(), 0);
        d.removeConstraint(0);
        d.addConstraint(1, 3);
        Check.same("30 a forced one", d.forcedConstraints(), 1);
        d.addPoint(100, 20);
        d.addConstraint(2, 1);
        Check.same("30 an inner one that is good", d.forcedConstraints(), 1);
        d.addPoint(41, 20);
        d.addConstraint(4, 5);
        Check.same("30 a second one, with a point near it", d.forcedConstraints(), 2);
        ConstrainedDelaunay line = Picture.made(0, 0, 1, 1);
        line.addConstraint(0, 1);
        Check.same("30 on a line", line.forcedConstraints(), 0);
    }
}
