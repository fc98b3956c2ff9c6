/** Promises 38 to 40, sentence by sentence. */
final class UndoBoundaries extends Boundary {
    private UndoBoundaries() {
    }

    static void all() {
        undoesEachKind();
        undoesNothingElse();
        atMostTwelve();
        undoReturns();
        undoNothing();
        saves();
        saveReturns();
        restores();
        restoreEndsUndo();
        restoreReturns();
        restoreNothing();
    }

    private static void undoesEachKind() {
        sentence("38", "Undoes the latest change that has not been undone: a successful call of addPoint,"
                + " removePoint, movePoint (also to the own position), addConstraint, or removeConstraint,"
                + " or the addition of one entry by readInput.");
        ConstrainedDelaunay d = new ConstrainedDelaunay();
        String[] states = new String[13];
        states[0] = Picture.of(d);
        d.addPoint(0, 0);
        states[1] = Picture.of(d);
        d.addPoint(100, 0);
        states[2] = Picture.of(d);
        same("entries", States.read(d, "50,50;0-1;1-0;7,7"), 2);
        states[3] = "points 0,0 100,0 50,50 constraints triangles 0.1.2 edges 0-1 0-2 1-2 hull 0 1 2";
        states[4] = Picture.of(d);
        d.movePoint(2, 50, 60);
        states[5] = Picture.of(d);
        d.movePoint(2, 50, 60);
        states[6] = Picture.of(d);
        d.addPoint(100, 100);
        states[7] = Picture.of(d);
        d.addConstraint(1, 2);
        states[8] = Picture.of(d);
        d.removeConstraint(0);
        states[9] = Picture.of(d);
        d.removePoint(0);
        states[10] = Picture.of(d);
        d.removeConstraint(0);
        states[11] = Picture.of(d);
        d.removePoint(1);
        for (int left = 11; left >= 0; left--) {
            same("left", d.undo(), left);
            same("state " + left, Picture.of(d), states[left]);
        }
    }

    private static void undoesNothingElse() {
        sentence("38", "Undoes the latest change that has not been undone: a successful call of addPoint,"
                + " removePoint, movePoint (also to the own position), addConstraint, or removeConstraint,"
                + " or the addition of one entry by readInput.");
        ConstrainedDelaunay d = Picture.square();
        d.addConstraint(0, 2);
        Looks.outcome(d, e -> e.addPoint(20, 20));
        Looks.outcome(d, e -> e.removePoint(0));
        Looks.outcome(d, e -> e.movePoint(1, 0, 40));
        Looks.outcome(d, e -> e.addConstraint(1, 3));
        Looks.outcome(d, e -> e.removeConstraint(1));
        States.read(d, "20,20;1,1");
        States.read(d, "1,7;");
        d.readInput();
        d.save();
        d.cavity(30, 10);
        d.hole(1);
        d.crossings(1, 3);
        d.effect(0);
        d.walk(0, 1, 1, true);
        same("the constraint was the latest change", d.undo(), 4);
        same("it is gone", d.constraintCount(), 0);
        same("undo is none itself", d.undo(), 3);
        same("a point is gone", d.pointCount(), 3);
    }

    private static void atMostTwelve() {
        sentence("38", "At most the 12 latest changes can be undone.");
        for (int changes = 11; changes <= 40; changes++) {
            ConstrainedDelaunay d = Picture.made(0, 100);
            for (int i = 1; i < changes; i++) {
                d.movePoint(0, i, 0);
            }
            int most = Math.min(changes, 12);
            for (int left = most - 1; left >= 0; left--) {
                same("of " + changes, d.undo(), left);
            }
            same("of " + changes + ": no more", Looks.outcome(d, e -> e.undo()), "IllegalStateException");
            same("of " + changes + ": what is left", Picture.points(d), changes <= 12 ? ""
                    : changes == 13 ? " 0,100" : " " + (changes - 13) + ",0");
        }
        ConstrainedDelaunay read = new ConstrainedDelaunay();
        States.read(read, "0,0;1,0;2,0;3,0;4,0;5,0;6,0;7,0;8,0;9,0;0,1;1,1;2,1");
        for (int left = 11; left >= 0; left--) {
            same("of 13 entries", read.undo(), left);
        }
        same("of 13 entries: the first stays", Picture.points(read), " 0,0");
    }

    private static void undoReturns() {
        sentence("38", "Returns the number of changes that can still be undone.");
        ConstrainedDelaunay d = Picture.square();
        same("3", d.undo(), 3);
        d.addPoint(1, 1);
        d.addPoint(2, 2);
        same("after two new ones", d.undo(), 4);
        for (int left = 3; left >= 0; left--) {
            same("down to none", d.undo(), left);
        }
        same("of full", States.full().undo(), 11);
        same("of busy", States.busy().undo(), 11);
    }

    private static void undoNothing() {
        sentence("38", "Throws `IllegalStateException` if there is no change that can be undone");
        refuses(States::empty, "a new object", STATE, d -> d.undo());
        refuses(() -> undone(Picture.square(), 4), "all undone", STATE, d -> d.undo());
        refuses(() -> undone(States.busy(), 12), "twelve undone", STATE, d -> d.undo());
        refuses(() -> undone(States.full(), 12), "twelve of more undone", STATE, d -> d.undo());
        refuses(() -> {
            ConstrainedDelaunay d = States.busy();
            d.restore();
            return d;
        }, "restored", STATE, d -> d.undo());
        ConstrainedDelaunay d = undone(States.busy(), 12);
        Looks.outcome(d, e -> e.undo());
        d.addPoint(1, 2);
        same("a new change", d.undo(), 0);
    }

    private static ConstrainedDelaunay undone(ConstrainedDelaunay d, int times) {
        for (int i = 0; i < times; i++) {
            d.undo();
        }
        return d;
    }

    private static void saves() {
        sentence("39", "Saves the points and the constraints, in place of what was saved before.");
        ConstrainedDelaunay d = States.full();
        String full = Picture.of(d);
        d.save();
        same("the state stays", Picture.of(d), full);
        d.removeConstraint(0);
        d.removePoint(15);
        d.restore();
        same("16 points and 10 constraints", Picture.of(d), full);
        d.save();
        for (int i = 0; i < 10; i++) {
            d.removeConstraint(0);
        }
        d.save();
        d.addConstraint(0, 1);
        d.restore();
        same("the later one", Picture.plan(d), Picture.plan(States.full()).replaceAll(" [0-9]+-[0-9]+", ""));
        ConstrainedDelaunay none = new ConstrainedDelaunay();
        none.save();
        none.addPoint(1, 1);
        none.restore();
        same("nothing can be saved", Picture.of(none), "points constraints triangles edges hull");
        ConstrainedDelaunay busy = States.busy();
        busy.save();
        same("changes can still be undone", busy.undo(), 11);
        same("the input stays", busy.feed('1'), 6);
    }

    private static void saveReturns() {
        sentence("39", "Returns the number of points.");
        same("none", States.empty().save(), 0);
        same("one", States.one().save(), 1);
        same("16", States.full().save(), 16);
    }

    private static void restores() {
        sentence("40", "Restores the points and the constraints that were saved last, which stay saved.");
        ConstrainedDelaunay d = States.busy();
        d.restore();
        String saved = "points 10,10 90,10 90,90 10,90 constraints 0-2 triangles 0.1.2 0.2.3 edges 0-1 0-2"
                + " 0-3 1-2 2-3 hull 0 1 2 3";
        same("once", Picture.of(d), saved);
        d.removeConstraint(0);
        d.movePoint(0, 0, 0);
        same("twice", d.restore(), 4);
        same("they stayed saved", Picture.of(d), saved);
        d.restore();
        same("three times", Picture.of(d), saved);
        d.movePoint(3, 0, 100);
        d.undo();
        same("after an undo", Picture.of(d), saved);
    }

    private static void restoreEndsUndo() {
        sentence("40", "No change can be undone afterwards.");
        ConstrainedDelaunay d = States.busy();
        d.restore();
        same("undo", Looks.outcome(d, e -> e.undo()), "IllegalStateException");
        d.addPoint(50, 60);
        same("but a later change", d.undo(), 0);
        same("undo again", Looks.outcome(d, e -> e.undo()), "IllegalStateException");
        same("the restored state", d.pointCount() * 10 + d.constraintCount(), 41);
        ConstrainedDelaunay full = States.full();
        full.restore();
        for (int i = 0; i < 13; i++) {
            full.movePoint(1, i, 100);
        }
        same("twelve later changes", full.undo(), 11);
    }

    private static void restoreReturns() {
        sentence("40", "Returns the number of points.");
        ConstrainedDelaunay none = States.empty();
        none.save();
        none.addPoint(0, 0);
        same("none", none.restore(), 0);
        ConstrainedDelaunay full = States.full();
        full.save();
        full.removePoint(15);
        same("16", full.restore(), 16);
        same("of busy", States.busy().restore(), 4);
    }

    private static void restoreNothing() {
        sentence("40", "Throws `IllegalStateException` if nothing was saved");
        refuses(States::empty, "a new object", STATE, d -> d.restore());
        refuses(States::most, "16 points", STATE, d -> d.restore());
        refuses(States::line, "with a constraint", STATE, d -> d.restore());
        same("it stays so", twice(States.most()), "IllegalStateException");
        ConstrainedDelaunay d = States.empty();
        d.save();
        same("nothing at all was saved, yet it was saved", d.restore(), 0);
    }

    private static String twice(ConstrainedDelaunay d) {
        Looks.outcome(d, e -> e.restore());
        return Looks.outcome(d, e -> e.restore());
    }
}
