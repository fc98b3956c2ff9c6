/** Promises 7 to 10, sentence by sentence. */
final class ConstraintBoundaries extends Boundary {
    private ConstraintBoundaries() {
    }

    static void all() {
        addConstraintAdds();
        addConstraintReturns();
        addConstraintIndex();
        addConstraintSame();
        addConstraintFull();
        addConstraintThere();
        addConstraintOverPoint();
        addConstraintCrosses();
        removeConstraintRemoves();
        removeConstraintRenumbers();
        removeConstraintReturns();
        removeConstraintIndex();
        constraintCount();
        constraintEnd();
        constraintEndWhich();
        constraintEndIndex();
        constraintEndArgument();
    }

    private static void addConstraintAdds() {
        sentence("7", "Adds a constraint.");
        ConstrainedDelaunay two = Picture.made(0, 0, 100, 100);
        two.addConstraint(1, 0);
        same("between two points", Picture.constraints(two) + Picture.edges(two), " 0-1 0-1");
        ConstrainedDelaunay d = Picture.square();
        d.addConstraint(1, 3);
        same("it becomes an edge", Picture.triangles(d), " 0.1.3 1.2.3");
        d.addConstraint(2, 1);
        same("behind the other one", Picture.constraints(d), " 1-3 1-2");
        same("ten", Picture.constraints(States.full()), " 0-1 0-2 0-3 0-4 0-5 0-6 0-7 0-8 0-9 0-10");
        ConstrainedDelaunay wheel = States.rim();
        wheel.addConstraint(14, 15);
        wheel.addConstraint(15, 13);
        same("of the last points", Picture.constraints(wheel), " 14-15 13-15");
    }

    private static void addConstraintReturns() {
        sentence("7", "Returns the number of the constraint.");
        ConstrainedDelaunay d = States.rim();
        for (int i = 0; i < 10; i++) {
            same("from 0 to 9", d.addConstraint(i + 1, i), i);
        }
        d.removeConstraint(0);
        same("the last number again", d.addConstraint(1, 0), 9);
        d.removeConstraint(9);
        d.removeConstraint(0);
        same("behind those that remain", d.addConstraint(15, 0), 8);
    }

    private static void addConstraintIndex() {
        sentence("7", "Throws `IndexOutOfBoundsException` if there is no such point");
        refusesEach(States::busy, "a of 7", INDEX, outside(7), (d, n) -> d.addConstraint(n, 3));
        refusesEach(States::busy, "b of 7", INDEX, outside(7), (d, n) -> d.addConstraint(3, n));
        refusesEach(States::most, "a of 16", INDEX, outside(16), (d, n) -> d.addConstraint(n, 0));
        refusesEach(States::most, "b of 16", INDEX, outside(16), (d, n) -> d.addConstraint(0, n));
        refusesEach(States::one, "b of 1", INDEX, outside(1), (d, n) -> d.addConstraint(0, n));
        refusesEach(States::empty, "of none", INDEX, outside(0), (d, n) -> d.addConstraint(n, 1));
    }

    private static void addConstraintSame() {
        sentence("7", "Throws `IllegalArgumentException` if a and b are the same");
        refusesEach(States::busy, "same", ARGUMENT, new int[] {0, 1, 2, 3, 4, 5, 6},
                (d, n) -> d.addConstraint(n, n));
        refuses(States::one, "the only point", ARGUMENT, d -> d.addConstraint(0, 0));
        refuses(States::most, "the last point", ARGUMENT, d -> d.addConstraint(15, 15));
    }

    private static void addConstraintFull() {
        sentence("7", "Throws `IllegalStateException` if there are 10 constraints");
        refuses(States::full, "a free one", STATE, d -> d.addConstraint(0, 11));
        refuses(States::full, "a hull edge", STATE, d -> d.addConstraint(12, 13));
        ConstrainedDelaunay d = States.full();
        d.removeConstraint(9);
        same("with 9 constraints", d.addConstraint(0, 11), 9);
    }

    private static void addConstraintThere() {
        sentence("7", "Throws `UnsupportedOperationException` if there is a constraint with these ends, a"
                + " point lies on the segment, or the segment crosses a constraint");
        refuses(States::busy, "the first", UNSUPPORTED, d -> d.addConstraint(2, 0));
        refuses(States::busy, "the first, turned", UNSUPPORTED, d -> d.addConstraint(0, 2));
        refuses(States::busy, "the last", UNSUPPORTED, d -> d.addConstraint(0, 1));
        refuses(States::busy, "the last, turned", UNSUPPORTED, d -> d.addConstraint(1, 0));
        refuses(States::line, "on a line", UNSUPPORTED, d -> d.addConstraint(0, 3));
        same("between ends of two others", States.busy().addConstraint(1, 2), 2);
        ConstrainedDelaunay d = States.busy();
        d.removeConstraint(0);
        same("there no more", d.addConstraint(2, 0), 1);
    }

    private static void addConstraintOverPoint() {
        sentence("7", "Throws `UnsupportedOperationException` if there is a constraint with these ends, a"
                + " point lies on the segment, or the segment crosses a constraint");
        int[][] between = {{1, 1}, {50, 50}, {99, 99}};
        for (int[] at : between) {
            refuses(() -> Picture.made(0, 0, 100, 100, at[0], at[1]), "over " + at[0], UNSUPPORTED,
                    d -> d.addConstraint(0, 1));
        }
        int[][] beside = {{50, 51}, {50, 49}, {1, 0}, {99, 100}, {0, 1}, {100, 99}};
        for (int[] at : beside) {
            same("beside " + at[0], Picture.made(0, 0, 100, 100, at[0], at[1]).addConstraint(1, 0), 0);
        }
        same("the point lies beyond an end", Picture.made(1, 1, 99, 99, 0, 0, 100, 100).addConstraint(0, 1),
                0);
        refuses(() -> Picture.made(40, 0, 40, 100, 40, 99), "upright", UNSUPPORTED,
                d -> d.addConstraint(1, 0));
        refuses(() -> Picture.made(0, 100, 100, 100, 1, 100), "level", UNSUPPORTED,
                d -> d.addConstraint(0, 1));
    }

    private static void addConstraintCrosses() {
        sentence("7", "Throws `UnsupportedOperationException` if there is a constraint with these ends, a"
                + " point lies on the segment, or the segment crosses a constraint");
        refuses(States::busy, "at an inner point", UNSUPPORTED, d -> d.addConstraint(3, 4));
        refuses(States::busy, "turned", UNSUPPORTED, d -> d.addConstraint(4, 3));
        int[][] tips = {{49, 50}, {51, 50}};
        same("ends before it", tip(tips[0]).addConstraint(2, 3), 1);
        refuses(() -> tip(tips[1]), "ends behind it", UNSUPPORTED, d -> d.addConstraint(2, 3));
        refuses(() -> {
            ConstrainedDelaunay d = Picture.made(0, 0, 100, 1, 0, 1, 100, 0);
            d.addConstraint(0, 1);
            return d;
        }, "at a point without integer coordinates", UNSUPPORTED, d -> d.addConstraint(2, 3));
        same("meets it at an end", States.busy().addConstraint(2, 4), 2);
        same("next to it on its line", States.line().addConstraint(1, 3), 1);
        same("apart from it on its line", States.line().addConstraint(2, 1), 1);
    }

    private static ConstrainedDelaunay tip(int[] at) {
        ConstrainedDelaunay d = Picture.made(50, 0, 50, 100, 0, 50, at[0], at[1]);
        d.addConstraint(0, 1);
        return d;
    }

    private static void removeConstraintRemoves() {
        sentence("8", "Removes a constraint.");
        ConstrainedDelaunay d = Picture.square();
        d.addConstraint(1, 3);
        d.removeConstraint(0);
        same("none is left", Picture.of(d), Picture.of(Picture.square()));
        ConstrainedDelaunay full = States.full();
        for (int i = 0; i < 10; i++) {
            full.removeConstraint(0);
        }
        same("all ten", Picture.constraints(full), "");
        same("the points stay", Picture.points(full), Picture.points(States.full()));
        same("the same one again", withoutTheTenth().addConstraint(10, 0), 9);
        same("a point where it was", withoutTheTenth().movePoint(11, 70, 25), true);
        same("its end moves", withoutTheTenth().movePoint(10, 100, 100), true);
        same("its end goes", withoutTheTenth().removePoint(10), 15);
        ConstrainedDelaunay across = withoutTheTenth();
        across.movePoint(12, 85, 1);
        across.movePoint(13, 90, 10);
        same("another one across it", across.addConstraint(12, 13), 9);
    }

    // The tenth constraint went from 50,50 to 90,0.
    private static ConstrainedDelaunay withoutTheTenth() {
        ConstrainedDelaunay d = States.full();
        d.removeConstraint(9);
        return d;
    }

    private static void removeConstraintRenumbers() {
        sentence("8", "The constraints with higher numbers get numbers that are lower by 1.");
        ConstrainedDelaunay first = States.full();
        first.removeConstraint(0);
        same("without the first", Picture.constraints(first), " 0-2 0-3 0-4 0-5 0-6 0-7 0-8 0-9 0-10");
        ConstrainedDelaunay last = States.full();
        last.removeConstraint(9);
        same("without the last", Picture.constraints(last), " 0-1 0-2 0-3 0-4 0-5 0-6 0-7 0-8 0-9");
        ConstrainedDelaunay middle = States.full();
        middle.removeConstraint(4);
        same("without one between", Picture.constraints(middle), " 0-1 0-2 0-3 0-4 0-6 0-7 0-8 0-9 0-10");
    }

    private static void removeConstraintReturns() {
        sentence("8", "Returns the number of constraints that remain.");
        ConstrainedDelaunay d = States.full();
        for (int left = 9; left >= 0; left--) {
            same("down to none", d.removeConstraint(left / 2), left);
        }
    }

    private static void removeConstraintIndex() {
        sentence("8", "Throws `IndexOutOfBoundsException` if there is no such constraint");
        refusesEach(States::busy, "of 2", INDEX, outside(2), (d, n) -> d.removeConstraint(n));
        refusesEach(States::full, "of 10", INDEX, outside(10), (d, n) -> d.removeConstraint(n));
        refusesEach(States::most, "of none", INDEX, outside(0), (d, n) -> d.removeConstraint(n));
        refusesEach(States::empty, "of nothing", INDEX, outside(0), (d, n) -> d.removeConstraint(n));
    }

    private static void constraintCount() {
        sentence("9", "Returns the number of constraints.");
        same("none", States.most().constraintCount(), 0);
        same("of nothing", States.empty().constraintCount(), 0);
        same("two", States.busy().constraintCount(), 2);
        same("10", States.full().constraintCount(), 10);
        ConstrainedDelaunay d = States.full();
        d.undo();
        same("9", d.constraintCount(), 9);
    }

    private static void constraintEnd() {
        sentence("10", "Returns an end of a constraint.", "Returns the point.");
        ConstrainedDelaunay d = States.full();
        same("of the first", d.constraintEnd(0, 1), 1);
        same("of the last", d.constraintEnd(9, 1), 10);
        ConstrainedDelaunay rim = States.rim();
        rim.addConstraint(0, 15);
        same("the first and the last point", rim.constraintEnd(0, 0) + "-" + rim.constraintEnd(0, 1),
                "0-15");
    }

    private static void constraintEndWhich() {
        sentence("10", "- `which`: 0 for the end with the lower number, 1 for the other one");
        ConstrainedDelaunay d = States.rim();
        d.addConstraint(15, 0);
        d.addConstraint(9, 10);
        d.addConstraint(5, 4);
        same("turned or not", Picture.constraints(d), " 0-15 9-10 4-5");
        d.removePoint(1);
        same("after a removal", Picture.constraints(d), " 0-14 8-9 3-4");
    }

    private static void constraintEndIndex() {
        sentence("10", "Throws `IndexOutOfBoundsException` if there is no such constraint");
        refusesEach(States::busy, "of 2", INDEX, outside(2), (d, n) -> d.constraintEnd(n, 0));
        refusesEach(States::full, "of 10", INDEX, outside(10), (d, n) -> d.constraintEnd(n, 1));
        refusesEach(States::empty, "of none", INDEX, outside(0), (d, n) -> d.constraintEnd(n, 0));
    }

    private static void constraintEndArgument() {
        sentence("10", "Throws `IllegalArgumentException` if which is neither 0 nor 1");
        refusesEach(States::busy, "which", ARGUMENT, NO_BIT, (d, n) -> d.constraintEnd(0, n));
        refusesEach(States::full, "which", ARGUMENT, NO_BIT, (d, n) -> d.constraintEnd(9, n));
    }
}
