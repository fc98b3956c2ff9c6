/** Promises 11 and 12, sentence by sentence. */
final class TextBoundaries extends Boundary {
    private static final String FIFTEEN =
            "0,0;1,0;2,0;3,0;4,0;5,0;6,0;7,0;8,0;9,0;0,1;1,1;2,1;3,1;4,1";

    private TextBoundaries() {
    }

    static void all() {
        feedAppends();
        feedAnyCharacter();
        feedReturns();
        feedFull();
        readsAndAdds();
        entriesAndSemicolons();
        entry();
        errorPosition();
        nothingAddedWithAnError();
        stopsAtAPoint();
        stopsAtAConstraint();
        emptyAfterwards();
        readInputReturns();
    }

    private static void reads(String text, int due) {
        same("'" + text + "'", States.read(new ConstrainedDelaunay(), text), due);
    }

    private static void feedAppends() {
        sentence("11", "Appends a character to the input.");
        ConstrainedDelaunay d = new ConstrainedDelaunay();
        States.read(d, "1,2");
        States.read(d, "2,1");
        States.feed(d, "3");
        d.addPoint(9, 9);
        States.feed(d, ",4");
        d.readInput();
        same("at the end, in order", Picture.points(d), " 1,2 2,1 9,9 3,4");
    }

    private static void feedAnyCharacter() {
        sentence("11", "- `character`: any character");
        char[] characters = {'\0', '\n', ' ', '/', ':', '0', '9', ';', ',', '-', '\u007f', '\u0080',
            '\u00ff', '\u0100', '\u0130', '\u0661', '\u2212', '\ud800', '\udfff', '\uff10', '\uffff'};
        for (char c : characters) {
            ConstrainedDelaunay d = new ConstrainedDelaunay();
            same("as the first", d.feed(c), 1);
            same("as the second", d.feed(c), 2);
            boolean digit = c >= '0' && c <= '9';
            same("it is in the input", d.readInput(), digit ? -102 : -100);
        }
    }

    private static void feedReturns() {
        sentence("11", "Returns the new length of the input.");
        ConstrainedDelaunay d = new ConstrainedDelaunay();
        for (int i = 1; i <= 60; i++) {
            same("from 1 to 60", d.feed((char) (i * 1091)), i);
        }
        d.readInput();
        same("from 1 again", d.feed('1'), 1);
        d.addPoint(1, 1);
        d.undo();
        same("other calls are none of it", d.feed('1'), 2);
    }

    private static void feedFull() {
        sentence("11", "Throws `IllegalStateException` if the input has 60 characters");
        char[] characters = {'0', ';', 'x', '\0', '\uffff'};
        for (char c : characters) {
            refuses(States::full, "the 61st", STATE, d -> d.feed(c));
        }
        ConstrainedDelaunay d = new ConstrainedDelaunay();
        States.feed(d, FIFTEEN);
        same("the 60th", d.feed('5'), 60);
        Looks.outcome(d, e -> e.feed('7'));
        same("the refused one is not read", d.readInput(), 15);
        same("the last point", d.coordinate(14, 0) + "," + d.coordinate(14, 1), "4,15");
        same("it is not full after it was read", d.feed('1'), 1);
    }

    private static void readsAndAdds() {
        sentence("12", "Reads the input as points and constraints, and adds them one after the other.");
        ConstrainedDelaunay d = new ConstrainedDelaunay();
        same("entries", States.read(d, "0,0;40,0;40,40;0,40;3-1;0-1;100,100"), 7);
        same("picture", Picture.of(d), "points 0,0 40,0 40,40 0,40 100,100 constraints 1-3 0-1 triangles"
                + " 0.1.3 1.2.3 1.4.2 2.4.3 edges 0-1 0-3 1-2 1-3 1-4 2-3 2-4 3-4 hull 0 1 4 3");
        same("a constraint of a point in the same input", States.read(d, "0,100;5-4"), 2);
        same("not of a later one", States.read(d, "6-5;100,0"), 0);
        same("points", d.pointCount(), 6);
        ConstrainedDelaunay far = new ConstrainedDelaunay();
        States.read(far, "100,0;0,100;000,000;100,100");
        same("0 and 100", Picture.points(far), " 100,0 0,100 0,0 100,100");
    }

    private static void entriesAndSemicolons() {
        sentence("12", "The input consists of one or more entries with a semicolon between two of them.");
        reads("", -100);
        reads("1,2", 1);
        reads("1,2;3,4", 2);
        reads(";", -100);
        reads(";1,2", -100);
        reads("1,2;", -104);
        reads("1,2;;3,4", -104);
        reads("1,2;3,4;", -108);
        reads("1,2,3,4", -103);
        reads("1,2 3,4", -103);
        reads(FIFTEEN, 15);
        reads(FIFTEEN + "9", 15);
        reads(FIFTEEN + ";", -160);
    }

    private static void entry() {
        sentence("12", "An entry is x,y for a point, or a-b for a constraint; all numbers have 1 to 3"
                + " digits.");
        reads("1,2", 1);
        reads("12,34", 1);
        reads("001,100", 1);
        reads("100,001", 1);
        reads("999,1", 0);
        reads("1,999", 0);
        reads("999-999", 0);
        reads("1,1;2,2;0-1", 3);
        reads("1,1;2,2;00-1", 3);
        reads("1,1;2,2;0-001", 3);
        reads(",2", -100);
        reads("-2", -100);
        reads("1,;2,2", -102);
        reads("1-;2,2", -102);
        reads("1;2", -101);
        reads("0001,1", -103);
        reads("1,0001", -105);
        reads("0000-1", -103);
        reads("1-0001", -105);
        reads("1.2", -101);
        reads("1/2", -101);
        reads("1:2", -101);
        reads("1,2-3", -103);
        reads("1-2,3", -103);
        reads("1,-2", -102);
        reads("+1,2", -100);
        reads(" 1,2", -100);
        reads("1,2 ", -103);
        reads("\u0661,2", -100);
        reads("1,\uff12", -102);
        reads("1\u2212" + "2", -101);
        reads("1,2\u037e" + "3,4", -103);
        reads("1\u012c2", -101);
        reads("\u0131,2", -100);
    }

    private static void errorPosition() {
        sentence("12", "The error position is the position, from 0, of the first character that cannot"
                + " continue such an input, or its length if it ends too early.");
        reads("x", -100);
        reads("1x", -101);
        reads("12x", -102);
        reads("123x", -103);
        reads("1234", -103);
        reads("1,x", -102);
        reads("1,2x", -103);
        reads("1,234x", -105);
        reads("1,2;x", -104);
        reads("1,2;3x4,", -105);
        reads("x1,2;y", -100);
        reads("1", -101);
        reads("123", -103);
        reads("1,", -102);
        reads("1-", -102);
        reads("1,2;3", -105);
        reads("1,2;3-", -106);
        reads(FIFTEEN.substring(0, 56) + "1111", -159);
        reads(FIFTEEN + "x", -159);
        reads(FIFTEEN.substring(0, 58) + "01", 15);
        reads(FIFTEEN.substring(0, 57) + "99,", -160);
        reads("101,101;1-1;0,", -114);
    }

    private static void nothingAddedWithAnError() {
        sentence("12", "With an error, nothing is added.");
        String[] texts = {"1,1;2,2;0-1;x", "1,1;", "1,1;2,2;3", "1,1x", "1,1;2,2;3,3;1,1;;", "0-1;", ""};
        for (String text : texts) {
            String before = Looks.after(Picture::square, d -> { });
            same("'" + text + "'", Looks.after(Picture::square, d -> States.read(d, text)), before);
        }
        ConstrainedDelaunay d = States.busy();
        same("the error", States.read(d, ",9;1,1;"), -112);
        same("the plan stays", Picture.of(d), Picture.of(States.busy()));
        same("it is no change", d.undo(), 11);
        same("the last change was another", d.pointCount(), 8);
    }

    private static void stopsAtAPoint() {
        sentence("12", "Otherwise, the entries are added up to, but not including, the first one for which"
                + " addPoint or addConstraint would throw an exception.");
        stops("x too large", "1,1;101,1;2,2", 1, " 1,1", "");
        stops("y too large", "1,1;1,101;2,2", 1, " 1,1", "");
        stops("x far too large", "999,1;2,2", 0, "", "");
        stops("taken", "1,1;2,2;1,1;3,3", 2, " 1,1 2,2", "");
        stops("on a constraint", "0,0;9,9;0-1;8,8;1,2", 3, " 0,0 9,9", " 0-1");
        stops("0 and 100 are in range", "0,100;100,0;0,0;100,100;100,101", 4, " 0,100 100,0 0,0 100,100",
                "");
        ConstrainedDelaunay d = States.longLine();
        d.removePoint(15);
        same("a 17th point", States.read(d, "0,100;1,100;0-1"), 1);
        same("16 points", d.pointCount() + d.constraintCount(), 16);
    }

    private static void stopsAtAConstraint() {
        sentence("12", "Otherwise, the entries are added up to, but not including, the first one for which"
                + " addPoint or addConstraint would throw an exception.");
        stops("no point a", "1,1;1-0;2,2", 1, " 1,1", "");
        stops("no point b", "1,1;0-1;2,2", 1, " 1,1", "");
        stops("far from any point", "1,1;0-999;2,2", 1, " 1,1", "");
        stops("the same", "1,1;0-0;2,2", 1, " 1,1", "");
        stops("there", "1,1;9,9;0-1;1-0;2,2", 3, " 1,1 9,9", " 0-1");
        stops("over a point", "1,1;9,9;5,5;0-1;2,2", 3, " 1,1 9,9 5,5", "");
        stops("crosses", "0,0;9,9;0,9;9,0;0-1;2-3;1,2", 5, " 0,0 9,9 0,9 9,0", " 0-1");
        ConstrainedDelaunay d = States.full();
        d.readInput();
        d.removeConstraint(9);
        same("an 11th constraint", States.read(d, "0-10;0-11"), 1);
        same("10 constraints", d.constraintCount(), 10);
    }

    private static void stops(String what, String text, int due, String points, String constraints) {
        ConstrainedDelaunay d = new ConstrainedDelaunay();
        same(what, States.read(d, text), due);
        same(what + ": points", Picture.points(d), points);
        same(what + ": constraints", Picture.constraints(d), constraints);
    }

    private static void emptyAfterwards() {
        sentence("12", "The input is empty afterwards in every case.");
        String[] texts = {"", "1,1", "1,1;1,1;2,2", "101,1", "x", "1,1;x", "1,1;", "0-1", "12x", "123",
            "1,1;12", "1,100x", "1-", FIFTEEN,
            FIFTEEN + "1", FIFTEEN + ";", ";".repeat(60)};
        for (String text : texts) {
            ConstrainedDelaunay d = new ConstrainedDelaunay();
            States.read(d, text);
            same("'" + text + "', read again", d.readInput(), -100);
            same("'" + text + "', fed again", d.feed('7'), 1);
            same("'" + text + "', new text", States.read(d, ",90;100,100"), d.pointCount() < 16 ? 2 : 1);
            same("'" + text + "', new point", Picture.points(d).contains(" 7,90"), true);
        }
    }

    private static void readInputReturns() {
        sentence("12", "Returns the number of entries that were added, or -100 minus the error position.");
        reads("101,1", 0);
        reads("1,1", 1);
        reads(FIFTEEN, 15);
        reads("", -100);
        reads("x", -100);
        reads("1", -101);
        reads("x".repeat(60), -100);
        reads(FIFTEEN + "x", -159);
        reads(FIFTEEN + ";", -160);
        ConstrainedDelaunay d = States.longLine();
        same("into a full state", States.read(d, "0,100;0-1"), 0);
        same("constraints into a full state", States.read(d, "0-1;14-15"), 2);
    }
}
