/** Promises 11 and 12: the input and how it is read. */
public final class TextTest {
    private TextTest() {
    }

    public static void main(String[] args) {
        feed();
        errors();
        reads();
        stopsAtTheFirstRefusal();
        countsAsChanges();
        longest();
        Check.finish();
    }

    private static int read(ConstrainedDelaunay d, String text) {
        for (int i = 0; i < text.length(); i++) {
            Check.same("11 length", d.feed(text.charAt(i)), i + 1);
        }
        return d.readInput();
    }

    private static void feed() {
        ConstrainedDelaunay d = new ConstrainedDelaunay();
        for (int i = 0; i < 60; i++) {
            Check.same("11 any character", d.feed((char) (1000 * i)), i + 1);
        }
        Check.refuses(d, "11 full", IllegalStateException.class, () -> d.feed('1'));
        Check.same("12 the first character is wrong", d.readInput(), -100);
        Check.same("11 empty afterwards", d.feed('7'), 1);
        Check.same("12 the refused character was not kept", d.readInput(), -101);
    }

    private static void errors() {
        ConstrainedDelaunay d = Picture.square();
        String before = Picture.of(d);
        String[] texts = {"", "1", "12", "123", "1234", "1,", "1,2;", "1,2;3", ";", ",", "1;", "1,2,",
            "1-2-", "1,2-", "1,,", "1--2", "-1,2", "1,-2", "1,2;;", "1,2 ", " 1,2", "1,1000", "001,0002",
            "1,2;3-4;", "1,2;3-4x", "1.2", "1,\u0661", "1,2;3-4;5", "0-1;0", "1,2:", "1,2/", "5,5;5,5;x"};
        int[] due = {0, 1, 2, 3, 3, 2, 4, 5, 0, 0, 1, 3,
            3, 3, 2, 2, 0, 2, 4, 3, 0, 5, 7,
            8, 7, 1, 2, 9, 5, 3, 3, 8};
        Check.same("12 the rows match", texts.length, due.length);
        for (int i = 0; i < texts.length; i++) {
            Check.same("12 " + texts[i], read(d, texts[i]), -100 - due[i]);
        }
        Check.same("12 nothing is added", Picture.of(d), before);
        Check.same("12 nothing counts as a change", d.undo(), 3);
    }

    private static void reads() {
        ConstrainedDelaunay d = new ConstrainedDelaunay();
        Check.same("12 points and constraints", read(d, "0,0;40,0;40,40;0,40;3-1;099,100;000-001"), 7);
        Check.same("12 picture", Picture.of(d), "points 0,0 40,0 40,40 0,40 99,100 constraints 1-3 0-1"
                + " triangles 0.1.3 1.2.3 1.4.2 2.4.3 edges 0-1 0-3 1-2 1-3 1-4 2-3 2-4 3-4 hull 0 1 4 3");
        Check.same("12 empty afterwards", d.readInput(), -100);
        Check.same("12 one entry", read(d, "7,9"), 1);
    }

    private static void stopsAtTheFirstRefusal() {
        ConstrainedDelaunay d = new ConstrainedDelaunay();
        Check.same("12 out of range", read(d, "1,1;101,1;2,2"), 1);
        Check.same("12 out of range, y", read(d, "1,999;2,2"), 0);
        Check.same("12 taken", read(d, "1,2;001,01;3,3"), 1);
        Check.same("12 no such point", read(d, "9,9;0-3;8,8"), 1);
        Check.same("12 no such point, a", read(d, "3-0;8,8"), 0);
        Check.same("12 same ends", read(d, "1-1;8,8"), 0);
        Check.same("12 a point added before", read(d, "5,5;3-0;0-3;4,4"), 2);
        Check.same("12 on a constraint", read(d, "4,5;3,3;7,7"), 1);
        Check.same("12 over a point", read(d, "0-2;7,7"), 0);
        Check.same("12 crosses", read(d, "5,1;1-5;7,7"), 1);
        Check.same("12 points", Picture.points(d), " 1,1 1,2 9,9 5,5 4,5 5,1");
        Check.same("12 constraints", Picture.constraints(d), " 0-3");
    }

    private static void countsAsChanges() {
        ConstrainedDelaunay d = new ConstrainedDelaunay();
        read(d, "0,0;9,0;0,9;1-2;0-0;5,5");
        Check.same("12 each entry a change", d.undo(), 3);
        Check.same("12 the constraint goes first", d.constraintCount() + d.pointCount(), 3);
        Check.same("12 then a point", d.undo(), 2);
        Check.same("12 two points", Picture.points(d), " 0,0 9,0");
    }

    private static void longest() {
        ConstrainedDelaunay d = new ConstrainedDelaunay();
        Check.same("12 too early at 60",
                read(d, "0,0;1,0;2,0;3,0;4,0;5,0;6,0;7,0;8,0;9,0;0,1;1,1;2,1;3,1;4,1;"), -160);
        Check.same("12 fifteen entries",
                read(d, "0,0;1,0;2,0;3,0;4,0;5,0;6,0;7,0;8,0;9,0;0,1;1,1;2,1;3,1;4,01"), 15);
        Check.same("12 twelve can be undone", d.undo(), 11);
        Check.same("12 two more fit", read(d, "4,1;5,1;6,1;7,1"), 2);
        ConstrainedDelaunay e = Picture.made(50, 50);
        for (int i = 0; i < 11; i++) {
            e.addPoint(10 * i, i % 2);
        }
        Check.same("12 ten constraints",
                read(e, "0-1;0-2;0-3;0-4;0-5;0-6;0-7;0-8;0-9;0-10;0-11;60,60"), 10);
    }
}
