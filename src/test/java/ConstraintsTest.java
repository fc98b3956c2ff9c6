/** Promises 7 to 10: constraints that come and go. */
public final class ConstraintsTest {
    private ConstraintsTest() {
    }

    public static void main(String[] args) {
        addConstraint();
        addConstraintRefusals();
        onOneLine();
        addConstraintFull();
        removeConstraint();
        constraintEnd();
        Check.finish();
    }

    private static void addConstraint() {
        ConstrainedDelaunay d = Picture.square();
        Check.same("7 diagonal", d.addConstraint(3, 1), 0);
        Check.same("7 triangles", Picture.triangles(d), " 0.1.3 1.2.3");
        Check.same("7 along the hull", d.addConstraint(0, 1), 1);
        Check.same("7 meeting at an end", d.addConstraint(1, 2), 2);
        Check.same("7 order of adding", Picture.constraints(d), " 1-3 0-1 1-2");
    }

    private static void addConstraintRefusals() {
        ConstrainedDelaunay d = Picture.square();
        d.addPoint(60, 60);
        d.addConstraint(1, 3);
        Check.refuses(d, "7 a", IndexOutOfBoundsException.class, () -> d.addConstraint(5, 0));
        Check.refuses(d, "7 b", IndexOutOfBoundsException.class, () -> d.addConstraint(0, -1));
        Check.refuses(d, "7 index before same", IndexOutOfBoundsException.class,
                () -> d.addConstraint(5, 5));
        Check.refuses(d, "7 same", IllegalArgumentException.class, () -> d.addConstraint(2, 2));
        Check.refuses(d, "7 there", UnsupportedOperationException.class, () -> d.addConstraint(1, 3));
        Check.refuses(d, "7 there, turned", UnsupportedOperationException.class,
                () -> d.addConstraint(3, 1));
        Check.refuses(d, "7 crosses", UnsupportedOperationException.class,
                () -> d.addConstraint(0, 2));
        Check.refuses(d, "7 over a point", UnsupportedOperationException.class,
                () -> d.addConstraint(4, 0));
        Check.same("7 beyond the point", d.addConstraint(4, 2), 1);
    }

    private static void onOneLine() {
        ConstrainedDelaunay d = Picture.made(10, 10, 30, 30, 20, 20, 0, 0);
        Check.refuses(d, "7 a point between", UnsupportedOperationException.class,
                () -> d.addConstraint(0, 1));
        Check.same("7 neighbours on a line", d.addConstraint(2, 0), 0);
        Check.same("7 next on the line", d.addConstraint(1, 2), 1);
        Check.same("7 the other side", d.addConstraint(0, 3), 2);
        Check.same("7 edges on a line", Picture.edges(d), " 0-2 0-3 1-2");
    }

    private static void addConstraintFull() {
        ConstrainedDelaunay d = Picture.made(50, 50);
        for (int i = 0; i < 11; i++) {
            d.addPoint(10 * i, i % 2 == 0 ? 0 : 1);
        }
        for (int i = 1; i <= 10; i++) {
            Check.same("7 number", d.addConstraint(0, i), i - 1);
        }
        Check.same("9 ten", d.constraintCount(), 10);
        Check.refuses(d, "7 same before full", IllegalArgumentException.class,
                () -> d.addConstraint(1, 1));
        Check.refuses(d, "7 full before there", IllegalStateException.class,
                () -> d.addConstraint(0, 1));
        Check.refuses(d, "7 full", IllegalStateException.class, () -> d.addConstraint(0, 11));
    }

    private static void removeConstraint() {
        ConstrainedDelaunay d = Picture.square();
        d.addConstraint(3, 1);
        d.addConstraint(2, 3);
        d.addConstraint(0, 3);
        Check.refuses(d, "8 -1", IndexOutOfBoundsException.class, () -> d.removeConstraint(-1));
        Check.refuses(d, "8 3", IndexOutOfBoundsException.class, () -> d.removeConstraint(3));
        Check.same("9 three", d.constraintCount(), 3);
        Check.same("8 the first", d.removeConstraint(0), 2);
        Check.same("9 two", d.constraintCount(), 2);
        Check.same("8 the others move up", Picture.constraints(d), " 2-3 0-3");
        Check.same("8 the edge goes", Picture.triangles(d), " 0.1.2 0.2.3");
        Check.same("8 the last", d.removeConstraint(1), 1);
        Check.same("8 the first stays", Picture.constraints(d), " 2-3");
        Check.same("8 none remain", d.removeConstraint(0), 0);
        Check.same("9 none", d.constraintCount(), 0);
        Check.same("8 free again", d.addConstraint(0, 2), 0);
    }

    private static void constraintEnd() {
        ConstrainedDelaunay d = Picture.square();
        d.addConstraint(3, 0);
        Check.same("10 lower", d.constraintEnd(0, 0), 0);
        Check.same("10 higher", d.constraintEnd(0, 1), 3);
        Check.refuses(d, "10 index first", IndexOutOfBoundsException.class,
                () -> d.constraintEnd(1, 2));
        Check.refuses(d, "10 -1", IndexOutOfBoundsException.class, () -> d.constraintEnd(-1, 0));
        Check.refuses(d, "10 which 2", IllegalArgumentException.class, () -> d.constraintEnd(0, 2));
        Check.refuses(d, "10 which -1", IllegalArgumentException.class, () -> d.constraintEnd(0, -1));
    }
}
