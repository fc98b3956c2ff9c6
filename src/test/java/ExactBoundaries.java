/** Promises 27 to 30, sentence by sentence. */
final class ExactBoundaries extends Boundary {
    private ExactBoundaries() {
    }

    static void all() {
        turn();
        turnIndex();
        inCircleAnswers();
        inCircleFarOut();
        inCircleIndex();
        inCircleOnALine();
        isGood();
        isGoodIndex();
        isGoodNoInnerEdge();
        forcedConstraints();
    }

    private static void turn() {
        sentence("27", "Returns the turn of three points.", "Returns 1 if they make a left turn, -1 if"
                + " they make a right turn, 0 if they lie on a line.");
        ConstrainedDelaunay far = Picture.made(0, 0, 100, 0, 100, 100, 0, 100);
        same("the widest left turn", far.turn(0, 1, 2), 1);
        same("the widest right turn", far.turn(2, 1, 0), -1);
        ConstrainedDelaunay hair = Picture.made(0, 0, 100, 99, 99, 98, 50, 50);
        same("right by a hair", hair.turn(0, 1, 2), -1);
        same("left by a hair", hair.turn(0, 2, 1), 1);
        same("and turned on", hair.turn(1, 0, 2), 1);
        same("on a line", States.longLine().turn(0, 15, 7), 0);
        same("turning back on a line", States.longLine().turn(15, 0, 7), 0);
        same("beyond on a line", States.longLine().turn(0, 1, 15), 0);
        same("upright", Picture.made(5, 0, 5, 100, 5, 50).turn(0, 1, 2), 0);
        same("level", Picture.made(0, 5, 100, 5, 50, 5).turn(0, 1, 2), 0);
        same("twice the same", hair.turn(3, 3, 1) + " " + hair.turn(3, 1, 3) + " " + hair.turn(1, 3, 3),
                "0 0 0");
        same("three times the same", States.one().turn(0, 0, 0), 0);
    }

    private static void turnIndex() {
        sentence("27", "Throws `IndexOutOfBoundsException` if there is no such point");
        refusesEach(States::busy, "a of 7", INDEX, outside(7), (d, n) -> d.turn(n, 1, 2));
        refusesEach(States::busy, "b of 7", INDEX, outside(7), (d, n) -> d.turn(0, n, 2));
        refusesEach(States::busy, "c of 7", INDEX, outside(7), (d, n) -> d.turn(0, 1, n));
        refusesEach(States::most, "a of 16", INDEX, outside(16), (d, n) -> d.turn(n, 15, 15));
        refusesEach(States::most, "b of 16", INDEX, outside(16), (d, n) -> d.turn(15, n, 15));
        refusesEach(States::most, "c of 16", INDEX, outside(16), (d, n) -> d.turn(15, 15, n));
        refusesEach(States::empty, "of none", INDEX, outside(0), (d, n) -> d.turn(n, n, n));
    }

    private static void inCircleAnswers() {
        sentence("28", "Returns where a point lies with respect to the circle through three points.",
                "Returns 1 if d lies inside the circle, 0 if it lies on it, -1 if it lies outside.");
        ConstrainedDelaunay rim = States.rim();
        for (int p = 0; p < 16; p++) {
            same("on it", rim.inCircle(0, 4, 9, p), 0);
            same("on it, clockwise", rim.inCircle(15, 8, 3, p), 0);
        }
        int[][] moved = {{100, 51, -1}, {100, 49, -1}, {99, 50, 1}, {99, 51, 1}, {0, 0, -1}, {100, 100, -1},
            {50, 99, 1}, {50, 1, 1}, {51, 0, -1}, {49, 0, -1}, {1, 50, 1}, {0, 51, -1}, {97, 64, 1},
            {98, 65, -1}, {99, 64, -1}, {90, 21, 1}, {91, 20, -1}, {50, 50, 1}};
        for (int[] at : moved) {
            rim.movePoint(12, at[0], at[1]);
            same(at[0] + "," + at[1], rim.inCircle(0, 4, 9, 12), at[2]);
            same(at[0] + "," + at[1] + ", clockwise", rim.inCircle(4, 0, 9, 12), at[2]);
        }
    }

    private static void inCircleFarOut() {
        sentence("28", "Returns 1 if d lies inside the circle, 0 if it lies on it, -1 if it lies outside.");
        int[] ends = {0, 1, 50, 99, 100};
        int[][] corners = {{0, 0, 100, 99, 99, 100}, {0, 0, 1, 0, 100, 100}, {100, 0, 0, 100, 51, 50},
            {0, 0, 50, 1, 99, 2}, {0, 100, 100, 100, 50, 99}, {0, 0, 100, 0, 0, 100}};
        for (int[] c : corners) {
            for (int x : ends) {
                for (int y : ends) {
                    ConstrainedDelaunay d = Picture.made(c);
                    int four = d.kindAt(x, y) == 1 ? d.numberAt(x, y) : d.addPoint(x, y);
                    same(x + "," + y, d.inCircle(0, 1, 2, four),
                            fromCentre(c, x, y));
                }
            }
        }
    }

    // The distances from the centre are compared; all numbers are multiples of the centre's divisor.
    private static int fromCentre(int[] c, int x, int y) {
        long a = (long) c[0] * c[0] + c[1] * c[1];
        long b = (long) c[2] * c[2] + c[3] * c[3];
        long d = (long) c[4] * c[4] + c[5] * c[5];
        long divisor = 2L * (c[0] * (c[3] - c[5]) + c[2] * (c[5] - c[1]) + c[4] * (c[1] - c[3]));
        long centreX = a * (c[3] - c[5]) + b * (c[5] - c[1]) + d * (c[1] - c[3]);
        long centreY = a * (c[4] - c[2]) + b * (c[0] - c[4]) + d * (c[2] - c[0]);
        return Long.compare(square(c[0] * divisor - centreX) + square(c[1] * divisor - centreY),
                square(x * divisor - centreX) + square(y * divisor - centreY));
    }

    private static long square(long number) {
        return number * number;
    }

    private static void inCircleIndex() {
        sentence("28", "Throws `IndexOutOfBoundsException` if there is no such point");
        refusesEach(States::busy, "a of 7", INDEX, outside(7), (d, n) -> d.inCircle(n, 1, 2, 3));
        refusesEach(States::busy, "b of 7", INDEX, outside(7), (d, n) -> d.inCircle(0, n, 2, 3));
        refusesEach(States::busy, "c of 7", INDEX, outside(7), (d, n) -> d.inCircle(0, 1, n, 3));
        refusesEach(States::busy, "d of 7", INDEX, outside(7), (d, n) -> d.inCircle(0, 1, 2, n));
        refusesEach(States::rim, "a of 16", INDEX, outside(16), (d, n) -> d.inCircle(n, 1, 2, 15));
        refusesEach(States::rim, "d of 16", INDEX, outside(16), (d, n) -> d.inCircle(0, 1, 2, n));
        refusesEach(States::empty, "of none", INDEX, outside(0), (d, n) -> d.inCircle(n, n, n, n));
    }

    private static void inCircleOnALine() {
        sentence("28", "Throws `ArithmeticException` if a, b and c lie on a line");
        refuses(States::longLine, "on a line", ARITHMETIC, d -> d.inCircle(0, 15, 7, 3));
        refuses(States::longLine, "in another order", ARITHMETIC, d -> d.inCircle(7, 15, 0, 3));
        refuses(States::busy, "a and b the same", ARITHMETIC, d -> d.inCircle(3, 3, 1, 2));
        refuses(States::busy, "b and c the same", ARITHMETIC, d -> d.inCircle(1, 3, 3, 2));
        refuses(States::busy, "a and c the same", ARITHMETIC, d -> d.inCircle(3, 1, 3, 2));
        refuses(States::one, "all the same", ARITHMETIC, d -> d.inCircle(0, 0, 0, 0));
        ConstrainedDelaunay d = Picture.made(0, 0, 100, 99, 99, 98);
        same("nearly on a line", d.inCircle(0, 1, 2, 0), 0);
        same("d on the line of a and b", States.line().turn(0, 1, 2) + " " + Picture.made(0, 0, 50, 0, 0, 50,
                25, 0).inCircle(0, 1, 2, 3), "0 1");
    }

    private static void isGood() {
        sentence("29", "Returns whether an inner edge is good.", "Returns whether it is good.");
        ConstrainedDelaunay square = Picture.square();
        same("on the circle", square.isGood(square.edgeBetween(0, 2)), true);
        ConstrainedDelaunay flat = Picture.made(0, 10, 100, 10, 50, 11, 50, 9);
        same("the short diagonal", flat.isGood(flat.edgeBetween(2, 3)), true);
        flat.addConstraint(0, 1);
        same("the long diagonal", flat.isGood(flat.edgeBetween(0, 1)), false);
        ConstrainedDelaunay rim = States.rim();
        same("diagonals of the fan", rim.isGood(rim.edgeBetween(0, 2)) && rim.isGood(rim.edgeBetween(14, 0)),
                true);
        rim.addConstraint(15, 1);
        same("a diagonal of the greatest", rim.isGood(rim.edgeBetween(1, 15)), false);
        ConstrainedDelaunay most = States.most();
        int good = 0;
        for (int e = 0; e < 42; e++) {
            int edge = e;
            good += Looks.answer(most, d -> d.isGood(edge)).equals("true") ? 1 : 0;
        }
        same("all inner edges of the most", good, 39);
    }

    private static void isGoodIndex() {
        sentence("29", "Throws `IndexOutOfBoundsException` if there is no such edge");
        refusesEach(States::triangle, "of 3", INDEX, outside(3), (d, n) -> d.isGood(n));
        refusesEach(States::most, "of 42", INDEX, outside(42), (d, n) -> d.isGood(n));
        refusesEach(States::line, "on a line", INDEX, outside(3), (d, n) -> d.isGood(n));
        refusesEach(States::one, "of none", INDEX, outside(0), (d, n) -> d.isGood(n));
        refusesEach(States::empty, "of nothing", INDEX, outside(0), (d, n) -> d.isGood(n));
    }

    private static void isGoodNoInnerEdge() {
        sentence("29", "Throws `UnsupportedOperationException` if it is no inner edge");
        refusesEach(States::triangle, "a hull edge", UNSUPPORTED, new int[] {0, 1, 2}, (d, n) -> d.isGood(n));
        refusesEach(States::line, "on a line", UNSUPPORTED, new int[] {0, 1, 2}, (d, n) -> d.isGood(n));
        refusesEach(States::rim, "the first and the last", UNSUPPORTED, new int[] {0, 14, 15, 28},
                (d, n) -> d.isGood(n));
        refuses(() -> {
            ConstrainedDelaunay d = Picture.square();
            d.addConstraint(0, 1);
            return d;
        }, "a constraint on the hull", UNSUPPORTED, d -> d.isGood(0));
    }

    private static void forcedConstraints() {
        sentence("30", "Returns the number of constraints that are inner edges but not good.",
                "Returns the number of constraints.");
        same("no points", States.empty().forcedConstraints(), 0);
        same("no constraints", States.most().forcedConstraints(), 0);
        same("on a line", States.line().forcedConstraints(), 0);
        ConstrainedDelaunay square = Picture.square();
        square.addConstraint(0, 1);
        same("on the hull", square.forcedConstraints(), 0);
        square.addConstraint(0, 2);
        same("good on the circle", square.forcedConstraints(), 0);
        square.removeConstraint(1);
        square.addConstraint(3, 1);
        same("not good on the circle", square.forcedConstraints(), 1);
        ConstrainedDelaunay ladder = new ConstrainedDelaunay();
        for (int i = 0; i < 8; i++) {
            ladder.addPoint(0, 10 * i);
            ladder.addPoint(100, 10 * i);
        }
        for (int i = 0; i < 4; i++) {
            ladder.addConstraint(2 * i, 2 * i + 9);
        }
        same("four slanting ones", ladder.forcedConstraints(), 4);
        ladder.addConstraint(2, 9);
        ladder.addConstraint(0, 1);
        same("not the short ones beside them", ladder.forcedConstraints(), 4);
        ladder.removeConstraint(3);
        same("one less", ladder.forcedConstraints(), 3);
        ConstrainedDelaunay ten = new ConstrainedDelaunay();
        States.read(ten, "56,98;5,16;61,82;96,0;27,57;22,65;18,64;79,17;43,38;70,83");
        States.read(ten, "12,44;100,5;48,19;67,64;22,62;85,47");
        States.read(ten, "1-7;4-12;5-9;5-10;2-6;1-14;9-14;4-11;9-11;11-14");
        same("all ten", ten.constraintCount() * 100 + ten.forcedConstraints(), 1010);
    }
}
