/** Promises 1 to 6: a new object, and points that come and go. */
public final class PointsTest {
    private PointsTest() {
    }

    public static void main(String[] args) {
        newObject();
        addPoint();
        addPointFull();
        removePoint();
        removePointRenumbers();
        movePoint();
        movePointRefusals();
        coordinate();
        Check.finish();
    }

    private static void newObject() {
        ConstrainedDelaunay d = new ConstrainedDelaunay();
        Check.same("1 picture", Picture.of(d), "points constraints triangles edges hull");
        Check.same("1 pointCount", d.pointCount(), 0);
        Check.same("1 constraintCount", d.constraintCount(), 0);
        Check.same("1 forcedConstraints", d.forcedConstraints(), 0);
        Check.refuses(d, "1 undo", IllegalStateException.class, () -> d.undo());
        Check.refuses(d, "1 restore", IllegalStateException.class, () -> d.restore());
        Check.same("1 the input is empty", d.feed('1'), 1);
        ConstrainedDelaunay other = Picture.square();
        Check.same("1 objects are apart", d.pointCount() + other.pointCount(), 4);
    }

    private static void addPoint() {
        ConstrainedDelaunay d = new ConstrainedDelaunay();
        Check.same("2 first", d.addPoint(0, 100), 0);
        Check.same("2 second", d.addPoint(100, 0), 1);
        Check.same("2 third", d.addPoint(0, 0), 2);
        Check.same("2 points", Picture.points(d), " 0,100 100,0 0,0");
        Check.same("2 triangles", Picture.triangles(d), " 0.2.1");
        Check.refuses(d, "2 x -1", IllegalArgumentException.class, () -> d.addPoint(-1, 5));
        Check.refuses(d, "2 x 101", IllegalArgumentException.class, () -> d.addPoint(101, 5));
        Check.refuses(d, "2 y -1", IllegalArgumentException.class, () -> d.addPoint(5, -1));
        Check.refuses(d, "2 y 101", IllegalArgumentException.class, () -> d.addPoint(5, 101));
        Check.refuses(d, "2 x least", IllegalArgumentException.class,
                () -> d.addPoint(Integer.MIN_VALUE, Integer.MAX_VALUE));
        Check.refuses(d, "2 taken", UnsupportedOperationException.class, () -> d.addPoint(100, 0));
        d.addConstraint(0, 1);
        Check.refuses(d, "2 on a constraint", UnsupportedOperationException.class,
                () -> d.addPoint(30, 70));
        Check.same("2 beside the constraint", d.addPoint(30, 71), 3);
        d.removeConstraint(0);
        Check.same("2 on a mere edge", d.addPoint(30, 70), 4);
    }

    private static void addPointFull() {
        ConstrainedDelaunay d = new ConstrainedDelaunay();
        for (int i = 0; i < 16; i++) {
            Check.same("2 number", d.addPoint(i, i * i % 17), i);
        }
        Check.refuses(d, "2 range before full", IllegalArgumentException.class,
                () -> d.addPoint(0, 101));
        Check.refuses(d, "2 full before taken", IllegalStateException.class, () -> d.addPoint(0, 0));
        Check.refuses(d, "2 full", IllegalStateException.class, () -> d.addPoint(99, 99));
    }

    private static void removePoint() {
        ConstrainedDelaunay d = Picture.square();
        Check.refuses(d, "3 -1", IndexOutOfBoundsException.class, () -> d.removePoint(-1));
        Check.refuses(d, "3 4", IndexOutOfBoundsException.class, () -> d.removePoint(4));
        d.addConstraint(2, 0);
        Check.refuses(d, "3 the end 0", IllegalStateException.class, () -> d.removePoint(0));
        Check.refuses(d, "3 the end 2", IllegalStateException.class, () -> d.removePoint(2));
        Check.refuses(d, "3 index before end", IndexOutOfBoundsException.class,
                () -> d.removePoint(Integer.MAX_VALUE));
        Check.same("3 remain", d.removePoint(1), 3);
        Check.same("3 picture", Picture.of(d),
                "points 0,0 40,40 0,40 constraints 0-1 triangles 0.1.2 edges 0-1 0-2 1-2 hull 0 1 2");
        d.removeConstraint(0);
        Check.same("3 to two", d.removePoint(0), 2);
        Check.same("3 edges of two", Picture.edges(d), " 0-1");
        Check.same("3 to one", d.removePoint(1), 1);
        Check.same("3 to none", d.removePoint(0), 0);
        Check.refuses(d, "3 none left", IndexOutOfBoundsException.class, () -> d.removePoint(0));
    }

    private static void removePointRenumbers() {
        ConstrainedDelaunay d = Picture.made(50, 50, 0, 0, 90, 0, 90, 90, 0, 90, 10, 20);
        d.addConstraint(5, 1);
        d.addConstraint(3, 4);
        d.addConstraint(4, 1);
        Check.same("3 with constraints", d.removePoint(2), 5);
        Check.same("3 constraints follow", Picture.constraints(d), " 1-4 2-3 1-3");
        Check.same("3 points follow", Picture.points(d), " 50,50 0,0 90,90 0,90 10,20");
    }

    private static void movePoint() {
        ConstrainedDelaunay d = Picture.square();
        Check.same("4 changes", d.movePoint(3, 0, 10), true);
        Check.same("4 coordinate", Picture.points(d), " 0,0 40,0 40,40 0,10");
        Check.same("4 triangles", Picture.triangles(d), " 0.1.3 1.2.3");
        Check.same("4 own position", d.movePoint(3, 0, 10), false);
        Check.same("4 only x", d.movePoint(3, 1, 10), true);
        Check.same("4 only y", d.movePoint(3, 1, 11), true);
        Check.same("4 to a line", d.movePoint(2, 60, 0) && d.movePoint(3, 20, 0), true);
        Check.same("4 edges on a line", Picture.edges(d), " 0-3 1-2 1-3");
    }

    private static void movePointRefusals() {
        ConstrainedDelaunay d = Picture.square();
        d.addPoint(30, 10);
        d.addConstraint(0, 2);
        Check.refuses(d, "4 index", IndexOutOfBoundsException.class, () -> d.movePoint(5, -1, 0));
        Check.refuses(d, "4 index -1", IndexOutOfBoundsException.class, () -> d.movePoint(-1, 1, 1));
        Check.refuses(d, "4 range x", IllegalArgumentException.class, () -> d.movePoint(0, 101, 0));
        Check.refuses(d, "4 range y", IllegalArgumentException.class, () -> d.movePoint(4, 0, -1));
        Check.refuses(d, "4 end", IllegalStateException.class, () -> d.movePoint(2, 9, 0));
        Check.refuses(d, "4 end to its own position", IllegalStateException.class,
                () -> d.movePoint(0, 0, 0));
        Check.refuses(d, "4 end before taken", IllegalStateException.class,
                () -> d.movePoint(0, 40, 0));
        Check.refuses(d, "4 taken", UnsupportedOperationException.class, () -> d.movePoint(4, 0, 40));
        Check.refuses(d, "4 taken by an end", UnsupportedOperationException.class,
                () -> d.movePoint(4, 40, 40));
        Check.refuses(d, "4 on a constraint", UnsupportedOperationException.class,
                () -> d.movePoint(4, 7, 7));
        Check.same("4 over the constraint", d.movePoint(4, 10, 30), true);
    }

    private static void coordinate() {
        ConstrainedDelaunay d = Picture.made(3, 100);
        Check.same("5 one", d.pointCount(), 1);
        Check.same("6 x", d.coordinate(0, 0), 3);
        Check.same("6 y", d.coordinate(0, 1), 100);
        Check.refuses(d, "6 index first", IndexOutOfBoundsException.class, () -> d.coordinate(1, 2));
        Check.refuses(d, "6 -1", IndexOutOfBoundsException.class, () -> d.coordinate(-1, 0));
        Check.refuses(d, "6 axis 2", IllegalArgumentException.class, () -> d.coordinate(0, 2));
        Check.refuses(d, "6 axis -1", IllegalArgumentException.class, () -> d.coordinate(0, -1));
        d.addPoint(4, 4);
        Check.same("5 two", d.pointCount(), 2);
        d.removePoint(0);
        Check.same("5 one again", d.pointCount(), 1);
        Check.same("6 the other moved up", d.coordinate(0, 1), 4);
    }
}
