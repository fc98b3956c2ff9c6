/** Promises 31 to 33, sentence by sentence. */
final class LocationBoundaries extends Boundary {
    private LocationBoundaries() {
    }

    static void all() {
        kindAt();
        kindAtRange();
        numberAt();
        numberAtRange();
        numberAtOutside();
        walks();
        walkChoosesTheFirstEdge();
        walkSteps();
        walkEnds();
        walkResult();
        walkIndex();
        walkRange();
    }

    private static void kinds(ConstrainedDelaunay d, int kind, int... positions) {
        for (int i = 0; i + 1 < positions.length; i += 2) {
            same(positions[i] + "," + positions[i + 1], d.kindAt(positions[i], positions[i + 1]), kind);
        }
    }

    private static void kindAt() {
        sentence("31", "Returns what is at a position.", "Returns 0 if the position is outside, 1 if it is"
                + " at a point, 2 if it is on an edge, 3 if it is in a triangle.");
        ConstrainedDelaunay d = Picture.made(0, 0, 100, 0, 100, 100, 0, 100);
        kinds(d, 1, 0, 0, 100, 0, 100, 100, 0, 100);
        kinds(d, 2, 1, 0, 99, 0, 100, 1, 100, 99, 0, 1, 0, 99, 1, 100, 99, 100, 1, 1, 50, 50, 99, 99);
        kinds(d, 3, 2, 1, 1, 2, 99, 98, 98, 99, 99, 1, 1, 99, 50, 49, 50, 51);
        ConstrainedDelaunay within = Picture.made(1, 1, 99, 1, 50, 99);
        kinds(within, 0, 0, 0, 100, 0, 0, 100, 100, 100, 0, 1, 100, 1, 1, 2, 99, 2);
        kinds(within, 0, 50, 0, 50, 100, 49, 98, 51, 98);
        kinds(within, 3, 50, 2, 50, 98, 2, 2, 98, 2);
        kinds(States.empty(), 0, 0, 0, 50, 50, 100, 100);
        kinds(States.one(), 1, 50, 50);
        kinds(States.one(), 0, 49, 50, 51, 50, 50, 49, 50, 51, 0, 0, 100, 100);
        kinds(States.line(), 1, 0, 0, 25, 25, 50, 50, 100, 100);
        kinds(States.line(), 2, 1, 1, 24, 24, 26, 26, 49, 49, 51, 51, 99, 99);
        kinds(States.line(), 0, 1, 0, 0, 1, 50, 49, 100, 99);
        kinds(Picture.made(0, 0, 100, 1), 0, 1, 0, 50, 0, 50, 1, 99, 1);
    }

    private static void kindAtRange() {
        sentence("31", "Throws `IllegalArgumentException` if a coordinate is out of range");
        refusesEach(States::busy, "x", ARGUMENT, NO_COORDINATE, (d, n) -> d.kindAt(n, 50));
        refusesEach(States::busy, "y", ARGUMENT, NO_COORDINATE, (d, n) -> d.kindAt(50, n));
        refusesEach(States::empty, "of nothing", ARGUMENT, NO_COORDINATE, (d, n) -> d.kindAt(n, n));
    }

    private static void numbers(ConstrainedDelaunay d, int number, int... positions) {
        for (int i = 0; i + 1 < positions.length; i += 2) {
            same(positions[i] + "," + positions[i + 1], d.numberAt(positions[i], positions[i + 1]), number);
        }
    }

    private static void numberAt() {
        sentence("32", "Returns the number of the point, edge or triangle at a position.",
                "Returns the number.");
        ConstrainedDelaunay d = Picture.made(0, 0, 100, 0, 100, 100, 0, 100);
        same("edges", Picture.edges(d), " 0-1 0-2 0-3 1-2 2-3");
        numbers(d, 0, 0, 0, 1, 0, 99, 0, 99, 98, 2, 1);
        numbers(d, 1, 100, 0, 1, 1, 99, 99, 98, 99, 1, 2);
        numbers(d, 2, 100, 100, 0, 1, 0, 99);
        numbers(d, 3, 0, 100, 100, 1, 100, 99);
        numbers(d, 4, 1, 100, 99, 100);
        ConstrainedDelaunay rim = States.rim();
        numbers(rim, 15, 98, 36);
        numbers(rim, 28, 94, 28);
        numbers(rim, 13, 96, 36);
        numbers(States.line(), 0, 0, 0, 1, 1, 24, 24);
        numbers(States.line(), 1, 50, 50, 51, 51, 99, 99);
        numbers(States.line(), 2, 100, 100, 26, 26, 49, 49);
        numbers(States.line(), 3, 25, 25);
        numbers(States.one(), 0, 50, 50);
    }

    private static void numberAtRange() {
        sentence("32", "Throws `IllegalArgumentException` if a coordinate is out of range");
        refusesEach(States::busy, "x", ARGUMENT, NO_COORDINATE, (d, n) -> d.numberAt(n, 50));
        refusesEach(States::busy, "y", ARGUMENT, NO_COORDINATE, (d, n) -> d.numberAt(50, n));
        refusesEach(States::empty, "of nothing", ARGUMENT, NO_COORDINATE, (d, n) -> d.numberAt(n, n));
    }

    private static void numberAtOutside() {
        sentence("32", "Throws `NoSuchElementException` if the position is outside");
        refuses(States::empty, "of nothing", MISSING, d -> d.numberAt(0, 0));
        refuses(States::one, "beside the only point", MISSING, d -> d.numberAt(50, 51));
        refuses(States::line, "beside the line", MISSING, d -> d.numberAt(50, 49));
        refuses(() -> Picture.made(1, 1, 2, 2), "before the line", MISSING, d -> d.numberAt(0, 0));
        refuses(() -> Picture.made(1, 1, 2, 2), "behind the line", MISSING, d -> d.numberAt(3, 3));
        refuses(States::triangle, "by a hair", MISSING, d -> d.numberAt(1, 100));
        refuses(States::triangle, "in the far corner", MISSING, d -> d.numberAt(100, 100));
        same("not on the hull", States.triangle().numberAt(1, 99), 2);
    }

    // ---- walk

    private static void walks() {
        sentence("33", "Walks from a triangle to a position.", "Returns the triangle, -1, or the number of"
                + " steps.");
        ConstrainedDelaunay d = States.rim();
        same("the longest way", d.walk(0, 98, 40, true), 13);
        same("its steps", d.walk(0, 98, 40, false), 13);
        same("and back", d.walk(13, 98, 60, true), 0);
        same("its steps back", d.walk(13, 98, 60, false), 13);
        same("no way", d.walk(13, 98, 40, true), 13);
        same("no steps", d.walk(13, 98, 40, false), 0);
        same("off at the greatest position", d.walk(0, 100, 100, true), -1);
        same("off at the least position", d.walk(0, 0, 0, true), -1);
        same("in the only triangle", States.triangle().walk(0, 0, 0, true), 0);
    }

    private static void walkChoosesTheFirstEdge() {
        sentence("33", "In each step, the first edge of the triangle, in the order of beyond, is sought"
                + " whose two ends, in counterclockwise order of the triangle, make a right turn with the"
                + " position.");
        ConstrainedDelaunay d = Picture.made(30, 30, 80, 30, 80, 80, 30, 80);
        same("0, at the hull, before 2", d.walk(0, 0, 10, false), 0);
        same("0, to the other triangle, before 2", d.walk(1, 10, 0, false), 1);
        ConstrainedDelaunay turned = Picture.made(80, 30, 80, 80, 30, 30, 30, 80);
        same("1, to the other triangle, before 2", turned.walk(0, 0, 10, false), 1);
        same("1, at the hull, before 2", turned.walk(1, 10, 0, false), 0);
        ConstrainedDelaunay inner = Picture.made(40, 40, 60, 40, 50, 60, 50, 0, 100, 70, 0, 70);
        same("the position lies on an edge", inner.walk(0, 50, 40, false), 0);
        same("the position lies on the line of an edge", inner.walk(0, 61, 40, true),
                inner.numberAt(61, 40));
        ConstrainedDelaunay square = Picture.made(0, 0, 50, 0, 50, 50, 0, 50);
        same("on the line of the diagonal", square.walk(0, 51, 51, false) + " " + square.walk(1, 51, 51,
                false), "0 0");
        same("both ways off", square.walk(0, 51, 51, true) + " " + square.walk(1, 51, 51, true), "-1 -1");
        same("only a right turn leads on", square.walk(0, 25, 25, true) + " " + square.walk(1, 25, 25, true),
                "0 1");
    }

    private static void walkSteps() {
        sentence("33", "If there is one, the step leads to the triangle beyond it.");
        ConstrainedDelaunay d = States.rim();
        for (int t = 0; t < 14; t++) {
            same("steps from " + t, d.walk(t, 98, 40, false), 13 - t);
            same("steps back from " + t, d.walk(t, 98, 60, false), t);
            same("end from " + t, d.walk(t, 98, 40, true), 13);
        }
    }

    private static void walkEnds() {
        sentence("33", "The walk ends in a triangle without such an edge, at a hull edge, beyond which"
                + " there is no triangle, or after 50 steps, where a triangle without such an edge to"
                + " which the 50th step leads counts as the first case.");
        ConstrainedDelaunay d = States.rim();
        same("in a triangle", d.walk(0, 96, 36, true), 13);
        same("at its corner", d.walk(0, 98, 36, true), 13);
        same("on a hull edge", d.walk(0, 94, 28, true), 13);
        same("at a hull edge, by a hair", d.walk(0, 99, 36, true), -1);
        same("at a hull edge, steps", d.walk(0, 99, 36, false), 13);
        same("at a hull edge at once", d.walk(0, 100, 51, true) + " " + d.walk(0, 100, 51, false), "-1 0");
        ConstrainedDelaunay round = roundAndRound();
        same("50 steps", round.walk(1, 40, 34, false), 50);
        same("no end after them", round.walk(1, 40, 34, true), -1);
        same("though the position is in a triangle", round.kindAt(40, 34), 3);
        int there = round.numberAt(40, 34);
        same("which ends the walk", round.walk(there, 40, 34, true), there);
        same("at once", round.walk(there, 40, 34, false), 0);
    }

    // Constraints can make a walk go round and round.
    private static ConstrainedDelaunay roundAndRound() {
        ConstrainedDelaunay d = new ConstrainedDelaunay();
        States.read(d, "35,17;68,42;34,82;45,34;63,53;29,44;55,26;61,4;9,1");
        States.read(d, "26,21;0,65;60,22;53,31");
        States.read(d, "1-9;5-8;11-12;0-11;0-8;3-10;2-4;0-7;1-3;3-9");
        return d;
    }

    private static void walkResult() {
        sentence("33", "- `result`: true for the triangle without such an edge in which the walk ends, or"
                + " -1 if it ends otherwise; false for the number of steps from one triangle to another");
        ConstrainedDelaunay d = Picture.square();
        same("true, the other one", d.walk(0, 10, 30, true), 1);
        same("false, one step", d.walk(0, 10, 30, false), 1);
        same("true, the same", d.walk(0, 30, 10, true), 0);
        same("false, no step", d.walk(0, 30, 10, false), 0);
        same("true, off after a step", d.walk(0, 0, 41, true), -1);
        same("false, off after a step", d.walk(0, 0, 41, false), 1);
        same("true, off at once", d.walk(0, 41, 0, true), -1);
        same("false, off at once", d.walk(0, 41, 0, false), 0);
    }

    private static void walkIndex() {
        sentence("33", "Throws `IndexOutOfBoundsException` if there is no such triangle");
        refusesEach(States::triangle, "of 1", INDEX, outside(1), (d, n) -> d.walk(n, 1, 1, true));
        refusesEach(States::most, "of 27", INDEX, outside(27), (d, n) -> d.walk(n, 1, 1, false));
        refusesEach(States::line, "on a line", INDEX, outside(0), (d, n) -> d.walk(n, 0, 0, true));
        refusesEach(States::empty, "of none", INDEX, outside(0), (d, n) -> d.walk(n, 0, 0, false));
    }

    private static void walkRange() {
        sentence("33", "Throws `IllegalArgumentException` if a coordinate is out of range");
        refusesEach(States::busy, "x", ARGUMENT, NO_COORDINATE, (d, n) -> d.walk(0, n, 50, true));
        refusesEach(States::busy, "y", ARGUMENT, NO_COORDINATE, (d, n) -> d.walk(0, 50, n, true));
        refusesEach(States::most, "both", ARGUMENT, NO_COORDINATE, (d, n) -> d.walk(26, n, n, false));
        same("0 and 100 are in range", States.triangle().walk(0, 100, 0, true) + States.triangle().walk(0, 0,
                100, false), 0);
    }
}
