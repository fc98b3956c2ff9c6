import java.util.NoSuchElementException;

/** Promises 31 to 33: what is at a position, and the walk to it. */
public final class LocationTest {
    private LocationTest() {
    }

    public static void main(String[] args) {
        place();
        placeOnOneLine();
        refusals();
        walk();
        walkRefusals();
        walkWithoutEnd();
        Check.finish();
    }

    private static void at(ConstrainedDelaunay d, int x, int y, int kind, int number) {
        Check.same("31 " + x + "," + y, d.kindAt(x, y), kind);
        if (kind == 0) {
            Check.refuses(d, "32 " + x + "," + y, NoSuchElementException.class,
                    () -> d.numberAt(x, y));
        } else {
            Check.same("32 " + x + "," + y, d.numberAt(x, y), number);
        }
    }

    private static void place() {
        ConstrainedDelaunay d = Picture.made(50, 50, 20, 20, 80, 20, 80, 80, 20, 80);
        Check.same("31 edges", Picture.edges(d), " 0-1 0-2 0-3 0-4 1-2 1-4 2-3 3-4");
        at(d, 50, 50, 1, 0);
        at(d, 20, 80, 1, 4);
        at(d, 30, 30, 2, 0);
        at(d, 20, 21, 2, 5);
        at(d, 50, 80, 2, 7);
        at(d, 79, 50, 3, 1);
        at(d, 50, 21, 3, 0);
        at(d, 50, 79, 3, 2);
        at(d, 21, 22, 3, 3);
        at(d, 19, 20, 0, 0);
        at(d, 50, 81, 0, 0);
        at(d, 0, 0, 0, 0);
        at(d, 100, 100, 0, 0);
        at(d, 90, 20, 0, 0);
    }

    private static void placeOnOneLine() {
        ConstrainedDelaunay d = new ConstrainedDelaunay();
        at(d, 5, 5, 0, 0);
        d.addPoint(5, 5);
        at(d, 5, 5, 1, 0);
        at(d, 6, 6, 0, 0);
        d.addPoint(20, 20);
        d.addPoint(10, 10);
        at(d, 6, 6, 2, 0);
        at(d, 15, 15, 2, 1);
        at(d, 4, 4, 0, 0);
        at(d, 21, 21, 0, 0);
        at(d, 6, 7, 0, 0);
    }

    private static void refusals() {
        ConstrainedDelaunay d = Picture.square();
        int[][] wrong = {{-1, 5}, {101, 5}, {5, -1}, {5, 101}, {Integer.MIN_VALUE, Integer.MAX_VALUE}};
        for (int[] at : wrong) {
            Check.refuses(d, "31 range", IllegalArgumentException.class, () -> d.kindAt(at[0], at[1]));
            Check.refuses(d, "32 range", IllegalArgumentException.class,
                    () -> d.numberAt(at[0], at[1]));
        }
    }

    private static void walk() {
        ConstrainedDelaunay d = Picture.made(10, 0, 30, 0, 40, 10, 40, 30, 30, 40, 10, 40, 0, 30, 0, 10);
        Check.same("33 triangles", Picture.triangles(d), " 0.1.2 0.2.3 0.3.4 0.4.5 0.5.6 0.6.7");
        Check.same("33 stays", d.walk(0, 29, 3, true), 0);
        Check.same("33 stays, steps", d.walk(0, 29, 3, false), 0);
        Check.same("33 on its edge", d.walk(0, 20, 0, true), 0);
        Check.same("33 at its corner", d.walk(3, 10, 0, false), 0);
        Check.same("33 to the last", d.walk(0, 1, 12, true), 5);
        Check.same("33 to the last, steps", d.walk(0, 1, 12, false), 5);
        Check.same("33 back", d.walk(5, 29, 3, true), 0);
        Check.same("33 off the hull at once", d.walk(0, 50, 0, true), -1);
        Check.same("33 off the hull at once, steps", d.walk(0, 50, 0, false), 0);
        Check.same("33 off the hull later", d.walk(0, 0, 0, true), -1);
        Check.same("33 off the hull later, steps", d.walk(5, 100, 1, false), 5);
        Check.same("33 onto the last edge", d.walk(0, 0, 20, true), 5);
        Check.same("33 a shared edge ends the walk", d.walk(0, 20, 20, false),
                d.walk(0, 20, 20, true));
    }

    private static void walkRefusals() {
        ConstrainedDelaunay d = Picture.square();
        Check.refuses(d, "33 index first", IndexOutOfBoundsException.class,
                () -> d.walk(2, -1, 0, true));
        Check.refuses(d, "33 -1", IndexOutOfBoundsException.class, () -> d.walk(-1, 1, 1, false));
        Check.refuses(d, "33 x", IllegalArgumentException.class, () -> d.walk(0, 101, 1, true));
        Check.refuses(d, "33 y", IllegalArgumentException.class, () -> d.walk(1, 1, -1, false));
        ConstrainedDelaunay line = Picture.made(0, 0, 1, 1);
        Check.refuses(line, "33 no triangle", IndexOutOfBoundsException.class,
                () -> line.walk(0, 0, 0, true));
    }

    // Constraints can make a walk go round and round.
    private static void walkWithoutEnd() {
        ConstrainedDelaunay d = Picture.made(35, 17, 68, 42, 34, 82, 45, 34, 63, 53, 29, 44, 55, 26, 61, 4,
                9, 1, 26, 21, 0, 65, 60, 22, 53, 31);
        int[][] pairs = {{1, 9}, {5, 8}, {11, 12}, {0, 11}, {0, 8}, {3, 10}, {2, 4}, {0, 7}, {1, 3},
            {3, 9}};
        for (int[] pair : pairs) {
            d.addConstraint(pair[0], pair[1]);
        }
        Check.same("33 fifty steps", d.walk(1, 40, 34, false), 50);
        Check.same("33 no end", d.walk(1, 40, 34, true), -1);
        Check.same("33 though it is in a triangle", d.kindAt(40, 34), 3);
        Check.same("33 which is its own end", d.walk(d.numberAt(40, 34), 40, 34, true),
                d.numberAt(40, 34));
    }
}
