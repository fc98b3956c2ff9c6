/** Promises 38 to 40: undo, save and restore. */
public final class UndoTest {
    private UndoTest() {
    }

    public static void main(String[] args) {
        eachKind();
        atMostTwelve();
        olderOnesStayGone();
        noChanges();
        saveAndRestore();
        restoreEndsUndo();
        inputIsApart();
        Check.finish();
    }

    private static void eachKind() {
        ConstrainedDelaunay d = Picture.square();
        String[] states = new String[8];
        states[4] = Picture.of(d);
        d.addConstraint(1, 3);
        states[5] = Picture.of(d);
        d.removePoint(0);
        states[6] = Picture.of(d);
        d.movePoint(1, 90, 90);
        states[7] = Picture.of(d);
        d.removeConstraint(0);
        Check.same("38 removeConstraint", d.undo(), 7);
        Check.same("38 the constraint", Picture.of(d), states[7]);
        Check.same("38 movePoint", d.undo(), 6);
        Check.same("38 the position", Picture.of(d), states[6]);
        Check.same("38 removePoint", d.undo(), 5);
        Check.same("38 the point and its number", Picture.of(d), states[5]);
        Check.same("38 addConstraint", d.undo(), 4);
        Check.same("38 no constraint", Picture.of(d), states[4]);
        Check.same("38 addPoint", d.undo(), 3);
        Check.same("38 three points", Picture.points(d), " 0,0 40,0 40,40");
        d.addPoint(7, 8);
        Check.same("38 a new change after it", d.undo(), 3);
        for (int left = 2; left >= 0; left--) {
            Check.same("38 down", d.undo(), left);
        }
        Check.refuses(d, "38 none left", IllegalStateException.class, () -> d.undo());
        Check.same("38 empty", d.pointCount(), 0);
    }

    private static void atMostTwelve() {
        ConstrainedDelaunay d = new ConstrainedDelaunay();
        for (int i = 0; i < 12; i++) {
            d.addPoint(i, 0);
        }
        Check.same("38 twelve", d.undo(), 11);
        d.addPoint(50, 0);
        d.addPoint(51, 0);
        for (int left = 11; left >= 0; left--) {
            Check.same("38 of thirteen", d.undo(), left);
            Check.same("38 points of thirteen", d.pointCount(), left + 1);
        }
        Check.refuses(d, "38 the first stays", IllegalStateException.class, () -> d.undo());
    }

    private static void olderOnesStayGone() {
        ConstrainedDelaunay d = new ConstrainedDelaunay();
        for (int i = 0; i < 15; i++) {
            d.addPoint(i, i);
        }
        for (int i = 0; i < 5; i++) {
            d.undo();
        }
        Check.same("38 seven left", d.undo(), 6);
        for (int i = 0; i < 6; i++) {
            d.undo();
        }
        Check.refuses(d, "38 gone for good", IllegalStateException.class, () -> d.undo());
        Check.same("38 three stay", Picture.points(d), " 0,0 1,1 2,2");
    }

    private static void noChanges() {
        ConstrainedDelaunay d = Picture.square();
        d.addConstraint(0, 1);
        Check.refuses(d, "38 a refusal is no change", UnsupportedOperationException.class,
                () -> d.addPoint(20, 0));
        Check.refuses(d, "38 nor this", IllegalStateException.class, () -> d.removePoint(0));
        d.feed('1');
        d.readInput();
        d.cavity(1, 2);
        d.save();
        Check.same("38 the constraint is undone", d.undo() * 10 + d.constraintCount(), 40);
        Check.same("38 to its own position", d.movePoint(1, 40, 0), false);
        Check.same("38 is a change", d.undo() * 10 + d.pointCount(), 44);
    }

    private static void saveAndRestore() {
        ConstrainedDelaunay d = new ConstrainedDelaunay();
        Check.refuses(d, "40 nothing saved", IllegalStateException.class, () -> d.restore());
        Check.same("39 none", d.save(), 0);
        d.addPoint(9, 9);
        Check.same("40 none", d.restore(), 0);
        Check.same("40 no points", d.pointCount(), 0);
        Picture.square();
        for (int i = 0; i < 4; i++) {
            d.addPoint(i * i, 10 * i);
        }
        d.addConstraint(0, 3);
        String before = Picture.of(d);
        Check.same("39 four", d.save(), 4);
        Check.same("39 leaves the state", Picture.of(d), before);
        d.removeConstraint(0);
        d.movePoint(0, 77, 7);
        d.addPoint(50, 50);
        Check.same("40 four", d.restore(), 4);
        Check.same("40 all as saved", Picture.of(d), before);
        d.removeConstraint(0);
        d.removePoint(2);
        Check.same("40 it stays saved", d.restore(), 4);
        Check.same("40 all as saved again", Picture.of(d), before);
        d.removeConstraint(0);
        d.removePoint(0);
        Check.same("39 in place of the former", d.save(), 3);
        d.addPoint(1, 0);
        Check.same("40 the later one", d.restore(), 3);
        Check.same("40 no constraint", d.constraintCount(), 0);
    }

    private static void restoreEndsUndo() {
        ConstrainedDelaunay d = Picture.square();
        d.save();
        d.addPoint(1, 2);
        d.undo();
        Check.same("39 undo leaves what is saved", d.restore(), 4);
        Check.refuses(d, "40 no undo after it", IllegalStateException.class, () -> d.undo());
        d.addPoint(1, 2);
        Check.same("40 but of what follows", d.undo(), 0);
        Check.refuses(d, "40 and no further", IllegalStateException.class, () -> d.undo());
        Check.same("40 four points", d.pointCount(), 4);
    }

    private static void inputIsApart() {
        ConstrainedDelaunay d = Picture.square();
        d.save();
        d.feed('5');
        d.undo();
        d.feed(',');
        d.restore();
        Check.same("38 and 40 leave the input", d.feed('6'), 3);
        Check.same("12 it can be read", d.readInput(), 1);
        Check.same("12 the point", d.coordinate(4, 1), 6);
    }
}
