/** "What it is" and "Description", sentence by sentence. */
final class DescriptionBoundaries extends Boundary {
    private DescriptionBoundaries() {
    }

    static void all() {
        exact();
        lastCall();
        sixteenPoints();
        coordinates();
        positions();
        tenConstraints();
        segment();
        liesOnASegment();
        cross();
        noneOfThese();
        turns();
        counterclockwise();
        trianglesOrNone();
        cover();
        innerAndHullEdges();
        thirdCorners();
        good();
        allGood();
        exactlyOne();
        onALine();
        cornerOrder();
        triangleOrder();
        edgeOrder();
        location();
        zeros();
        eitherOrder();
        holeByPoints();
        goneForGood();
    }

    private static void exact() {
        sentence("What it is", "All decisions are exact.");
        ConstrainedDelaunay hair = Picture.made(0, 0, 100, 99, 99, 98);
        same("a turn by the least area", hair.turn(0, 1, 2), -1);
        same("the least triangle", hair.twiceArea(0), 1);
        same("beside a long edge", hair.kindAt(98, 97), 0);
        ConstrainedDelaunay rim = States.rim();
        same("on a circle", rim.inCircle(1, 6, 12, 14), 0);
        rim.movePoint(14, 90, 21);
        same("just inside", rim.inCircle(1, 6, 12, 14), 1);
        rim.movePoint(14, 91, 20);
        same("just outside", rim.inCircle(1, 6, 12, 14), -1);
        same("a quotient", Picture.made(0, 0, 3, 0, 0, 3, 1, 1).areaShare(0), 1.0 / 3.0);
    }

    private static void lastCall() {
        sentence("What it is", "An object is used for at most 512 calls after it has been made; what later"
                + " calls answer is free.");
        ConstrainedDelaunay d = States.rim();
        int calls = 18;
        same("a call", d.save(), 16);
        calls++;
        for (int round = 0; calls < 511; round++, calls += 2) {
            same("a change", d.movePoint(15, 98, round % 2 == 0 ? 37 : 36), true);
            same("an answer", d.inCircle(0, 4, 9, 15), round % 2 == 0 ? 1 : 0);
        }
        same("calls", calls, 511);
        same("the 512th call", d.hole(0), 13);
    }

    // ---- points

    private static void sixteenPoints() {
        sentence("Description", "There are at most 16 points, numbered from 0 in the order in which they"
                + " were added.");
        ConstrainedDelaunay d = new ConstrainedDelaunay();
        for (int i = 0; i < 16; i++) {
            same("number", d.addPoint(100 - 6 * i, i % 3), i);
        }
        for (int i = 0; i < 16; i++) {
            same("position", d.coordinate(i, 0) + "," + d.coordinate(i, 1), (100 - 6 * i) + "," + i % 3);
        }
        refuses(States::most, "the 17th", STATE, e -> e.addPoint(100, 100));
        same("the 17th by readInput", States.read(d, "100,100"), 0);
        same("16", d.pointCount(), 16);
        d.removePoint(0);
        same("the 16th again", d.addPoint(100, 100), 15);
        same("it comes last", d.coordinate(15, 1), 100);
    }

    private static void coordinates() {
        sentence("Description", "The coordinates x and y of a point are integers from 0 to 100.");
        same("the ends of the range", Picture.points(Picture.made(0, 0, 100, 100, 0, 100, 100, 0)),
                " 0,0 100,100 0,100 100,0");
        refusesEach(States::busy, "addPoint", ARGUMENT, new int[] {-1, 101}, (d, n) -> d.addPoint(n, 100));
        refusesEach(States::busy, "movePoint", ARGUMENT, new int[] {-1, 101}, (d, n) -> d.movePoint(3, 0, n));
        same("readInput", States.read(new ConstrainedDelaunay(), "100,100;100,101"), 1);
    }

    private static void positions() {
        sentence("Description", "No two points have the same position.");
        refuses(States::full, "movePoint", UNSUPPORTED, d -> d.movePoint(15, 60, 90));
        refuses(States::busy, "addPoint", UNSUPPORTED, d -> d.addPoint(5, 50));
        same("readInput", States.read(new ConstrainedDelaunay(), "1,1;2,2;01,001"), 2);
        same("the same x, the same y, turned", States.read(new ConstrainedDelaunay(), "1,2;1,3;4,2;2,1"), 4);
        ConstrainedDelaunay d = Picture.made(1, 1, 2, 2);
        d.removePoint(0);
        same("free again after a removal", d.addPoint(1, 1), 1);
        d.movePoint(0, 3, 3);
        same("free again after a move", d.addPoint(2, 2), 2);
        d.undo();
        d.undo();
        same("taken again after an undo", Looks.outcome(d, e -> e.addPoint(2, 2)),
                "UnsupportedOperationException");
    }

    // ---- constraints

    private static void tenConstraints() {
        sentence("Description", "There are at most 10 constraints, numbered from 0 in the order in which"
                + " they were added.");
        ConstrainedDelaunay d = States.longLine();
        for (int i = 0; i < 10; i++) {
            same("number", d.addConstraint(14 - i, 15 - i), i);
        }
        for (int i = 0; i < 10; i++) {
            same("ends", d.constraintEnd(i, 0) + "-" + d.constraintEnd(i, 1), (14 - i) + "-" + (15 - i));
        }
        refuses(States::full, "the 11th", STATE, e -> e.addConstraint(0, 11));
        same("the 11th by readInput", States.read(d, "0-1"), 0);
        same("10", d.constraintCount(), 10);
        d.removeConstraint(0);
        same("the 10th again", d.addConstraint(0, 1), 9);
        same("it comes last", d.constraintEnd(9, 0), 0);
    }

    private static void segment() {
        sentence("Description", "A constraint is the segment between two points.");
        refuses(States::one, "of one point", ARGUMENT, d -> d.addConstraint(0, 0));
        same("of two", States.read(new ConstrainedDelaunay(), "0,0;100,100;1-0"), 3);
        same("it does not go on beyond its ends", States.line().addPoint(26, 26), 4);
        refuses(States::line, "it goes on up to them", UNSUPPORTED, d -> d.addPoint(24, 24));
    }

    private static void liesOnASegment() {
        sentence("Description", "A point lies on a segment if it is one of the points of the segment other"
                + " than its two ends.");
        int[][] segments = {{0, 0, 100, 100}, {0, 100, 100, 0}, {40, 0, 40, 100}, {0, 40, 100, 40},
            {2, 4, 8, 7}, {90, 10, 50, 30}, {0, 0, 100, 1}, {0, 0, 2, 0}, {100, 98, 100, 100}, {4, 6, 6, 4}};
        int[][][] on = {{{1, 1}, {50, 50}, {99, 99}}, {{1, 99}, {50, 50}, {99, 1}}, {{40, 1}, {40, 99}},
            {{1, 40}, {99, 40}}, {{4, 5}, {6, 6}}, {{88, 11}, {70, 20}, {52, 29}}, {}, {{1, 0}},
            {{100, 99}}, {{5, 5}}};
        int[][][] off = {{{1, 0}, {99, 100}, {50, 51}}, {{0, 99}, {100, 1}, {51, 50}}, {{41, 0}, {39, 100}},
            {{0, 41}, {100, 39}}, {{0, 3}, {10, 8}, {3, 4}, {7, 7}, {5, 6}}, {{92, 9}, {48, 31}, {71, 20}},
            {{1, 0}, {50, 0}, {50, 1}, {99, 1}}, {{1, 1}, {3, 0}}, {{99, 99}, {100, 97}}, {{5, 4}, {7, 3}}};
        for (int i = 0; i < segments.length; i++) {
            int[] ends = segments[i];
            for (int[] at : on[i]) {
                refuses(() -> constrained(ends), "on it", UNSUPPORTED, d -> d.addPoint(at[0], at[1]));
                refuses(() -> Picture.made(ends[0], ends[1], ends[2], ends[3], at[0], at[1]), "under it",
                        UNSUPPORTED, d -> d.addConstraint(1, 0));
            }
            for (int[] at : off[i]) {
                same("off it", constrained(ends).addPoint(at[0], at[1]), 2);
                same("not under it", Picture.made(ends[0], ends[1], ends[2], ends[3], at[0], at[1])
                        .addConstraint(1, 0), 0);
            }
        }
    }

    private static ConstrainedDelaunay constrained(int... at) {
        ConstrainedDelaunay d = Picture.made(at);
        d.addConstraint(0, 1);
        return d;
    }

    private static void cross() {
        sentence("Description", "Two segments cross if they have a point in common that is an end of"
                + " neither.");
        refuses(() -> constrained(0, 0, 100, 100, 0, 100, 100, 0), "in the middle", UNSUPPORTED,
                d -> d.addConstraint(2, 3));
        refuses(() -> constrained(0, 0, 100, 1, 0, 1, 100, 0), "between integer coordinates", UNSUPPORTED,
                d -> d.addConstraint(2, 3));
        refuses(() -> constrained(0, 0, 100, 1, 99, 0, 99, 1), "near an end", UNSUPPORTED,
                d -> d.addConstraint(3, 2));
        same("an end of both", constrained(0, 0, 100, 100, 0, 100).addConstraint(2, 1), 1);
        same("apart by a hair", constrained(0, 0, 100, 1, 0, 1, 99, 1).addConstraint(2, 3), 1);
        same("one would cross if it went"
                + " on", constrained(50, 0, 50, 100, 0, 50, 49, 50).addConstraint(2, 3), 1);
        same("the other one would", constrained(0, 50, 49, 50, 50, 0, 50, 100).addConstraint(2, 3), 1);
        same("side by side", constrained(0, 0, 100, 100, 1, 0, 100, 99).addConstraint(2, 3), 1);
        same("one behind the other", constrained(0, 0, 10, 10, 11, 11, 99, 99).addConstraint(2, 3), 1);
        same("crossings of such an edge", constrained(0, 0, 100, 100, 0, 100, 100, 0).crossings(2, 3), 1);
    }

    private static void noneOfThese() {
        sentence("Description", "No point lies on a constraint, no two constraints cross, and no two"
                + " constraints have the same ends.");
        refuses(States::busy, "addPoint", UNSUPPORTED, d -> d.addPoint(50, 50));
        refuses(States::busy, "movePoint", UNSUPPORTED, d -> d.movePoint(4, 50, 50));
        refuses(States::busy, "addConstraint across", UNSUPPORTED, d -> d.addConstraint(4, 5));
        refuses(States::busy, "addConstraint again", UNSUPPORTED, d -> d.addConstraint(2, 0));
        same("readInput of points", States.read(constrained(0, 0, 100, 100), "1,0;50,50"), 1);
        same("readInput across", States.read(constrained(0, 0, 100, 100), "0,100;100,0;2-3;1,0"), 2);
        same("readInput again", States.read(constrained(0, 0, 100, 100), "1-0;1,0"), 0);
        same("readInput over a point", States.read(Picture.made(0, 0, 100, 100, 50, 50), "0-1;1,0"), 0);
    }

    // ---- turns and the triangulation

    private static void turns() {
        sentence("Description", "Three points a, b, c make a left turn if the number (bx - ax) * (cy - ay)"
                + " - (by - ay) * (cx - ax) is positive, a right turn if it is negative, and lie on a line"
                + " if it is 0.");
        int[][] ends = {{0, 0}, {100, 0}, {0, 100}, {100, 100}, {50, 50}, {1, 0}, {99, 100}, {0, 1}, {50, 49},
            {49, 50}, {100, 99}, {51, 51}};
        ConstrainedDelaunay d = new ConstrainedDelaunay();
        for (int[] at : ends) {
            d.addPoint(at[0], at[1]);
        }
        for (int a = 0; a < ends.length; a++) {
            for (int b = 0; b < ends.length; b++) {
                int c = (5 * a + 7 * b + 1) % ends.length;
                long number = (long) (ends[b][0] - ends[a][0]) * (ends[c][1] - ends[a][1])
                        - (long) (ends[b][1] - ends[a][1]) * (ends[c][0] - ends[a][0]);
                same(a + " " + b + " " + c, d.turn(a, b, c), Long.signum(number));
            }
        }
    }

    private static void counterclockwise() {
        sentence("Description", "Corners of a triangle that make a left turn in their order are in"
                + " counterclockwise order.");
        ConstrainedDelaunay right = Picture.made(0, 0, 0, 100, 100, 0);
        same("added clockwise", Picture.triangles(right), " 0.2.1");
        same("its turn", right.turn(right.corner(0, 0), right.corner(0, 1), right.corner(0, 2)), 1);
        ConstrainedDelaunay d = States.most();
        for (int t = 0; t < 27; t++) {
            same("left turn", d.turn(d.corner(t, 0), d.corner(t, 1), d.corner(t, 2)), 1);
        }
    }

    private static void trianglesOrNone() {
        sentence("Description", "If there are three points that do not lie on a line, the triangulation"
                + " consists of triangles whose corners are points.");
        same("two points", Picture.made(0, 0, 100, 100).triangleCount(), 0);
        same("three on a line", Picture.made(0, 0, 100, 100, 50, 50).triangleCount(), 0);
        same("three by a hair", Picture.triangles(Picture.made(0, 0, 100, 99, 99, 98)), " 0.2.1");
        ConstrainedDelaunay d = States.longLine();
        same("16 on a line", d.triangleCount(), 0);
        d.movePoint(7, 35, 15);
        same("one of 16 off the line", d.triangleCount(), 14);
        d.undo();
        same("back on the line", d.triangleCount() + d.hullSize(), 0);
    }

    private static void cover() {
        sentence("Description", "They do not overlap, together they cover the convex hull of all points,"
                + " no point lies in a triangle or on one of its edges except its three corners, each"
                + " point is a corner, and each constraint is an edge.");
        ConstrainedDelaunay grid = new ConstrainedDelaunay();
        for (int i = 0; i < 16; i++) {
            grid.addPoint(30 * (i % 4), 30 * (i / 4));
        }
        grid.addConstraint(0, 6);
        grid.addConstraint(9, 15);
        grid.addConstraint(8, 13);
        same("triangles", grid.triangleCount(), 18);
        same("edges", grid.edgeCount(), 33);
        same("hull", grid.hullSize(), 12);
        for (int t = 0; t < 18; t++) {
            same("no triangle holds another point", grid.twiceArea(t), 900);
        }
        for (int p = 0; p < 16; p++) {
            same("each point is a corner", grid.degree(p) >= 2, true);
        }
        same("each constraint is an edge", grid.edgeBetween(0, 6) >= 0 && grid.edgeBetween(9, 15) >= 0
                && grid.edgeBetween(8, 13) >= 0, true);
        for (int e = 0; e < 33; e++) {
            same("no two edges cross", grid.crossings(grid.edgeEnd(e, 0), grid.edgeEnd(e, 1)), 1);
        }
    }

    private static void innerAndHullEdges() {
        sentence("Description", "An edge that belongs to two triangles is an inner edge, all other edges"
                + " are hull edges.");
        ConstrainedDelaunay one = States.triangle();
        same("of one triangle", one.hullSize(), 3);
        same("none is inner", Looks.answer(one, d -> d.isGood(0)) + Looks.answer(one, d -> d.isGood(2)),
                "UnsupportedOperationExceptionUnsupportedOperationException");
        ConstrainedDelaunay two = Picture.square();
        same("of two triangles", two.hullSize(), 4);
        same("one is inner", two.isGood(two.edgeBetween(0, 2)), true);
        two.addConstraint(0, 1);
        two.addConstraint(0, 2);
        same("constraints make no difference", two.hullSize() + " " + two.isGood(1), "4 true");
        ConstrainedDelaunay side = Picture.made(0, 0, 50, 0, 100, 0, 50, 50);
        same("a point on a side", side.hullSize() + Picture.hull(side), "4 0 1 2 3");
        ConstrainedDelaunay most = States.most();
        int inner = 0;
        for (int e = 0; e < 42; e++) {
            int edge = e;
            inner += Looks.answer(most, d -> d.isGood(edge)).equals("true") ? 1 : 0;
        }
        same("the most", inner + most.hullSize(), 42);
    }

    private static void thirdCorners() {
        sentence("Description", "An inner edge with the ends a and b belongs to two triangles with the"
                + " third corners c and d.");
        ConstrainedDelaunay d = States.most();
        int sides = 0;
        for (int t = 0; t < 27; t++) {
            for (int which = 0; which < 3; which++) {
                int other = d.beyond(t, which);
                if (other >= 0) {
                    int a = d.corner(t, which);
                    int b = d.corner(t, (which + 1) % 3);
                    int third = d.corner(other, 0) + d.corner(other, 1) + d.corner(other, 2) - a - b;
                    same("on the other side", d.turn(a, b, third), -1);
                    sides++;
                }
            }
        }
        same("two for each inner edge", sides, 2 * 39);
    }

    private static void good() {
        sentence("Description", "It is good if d lies outside the circle through a, b and c; if d lies on"
                + " this circle, it is good if neither a nor b is the point with the greatest number among"
                + " a, b, c and d.");
        same("outside, by a hair", forced(0, 20, 40, 20, 20, 0, 20, 41), true);
        same("inside, by a hair", forced(0, 20, 40, 20, 20, 0, 20, 39), false);
        same("on it, d the greatest", forced(0, 20, 40, 20, 20, 0, 20, 40), true);
        same("on it, c the greatest", forced(0, 20, 40, 20, 20, 40, 20, 0), true);
        int[][] orders = {{0, 1, 2, 3}, {0, 1, 3, 2}, {0, 3, 1, 2}, {3, 0, 1, 2}, {2, 3, 0, 1}, {1, 3, 2, 0}};
        boolean[] due = {true, true, false, false, false, false};
        int[][] at = {{0, 20}, {40, 20}, {20, 0}, {20, 40}};
        for (int i = 0; i < orders.length; i++) {
            int[] o = orders[i];
            int[] coordinates = new int[8];
            for (int p = 0; p < 4; p++) {
                coordinates[2 * o[p]] = at[p][0];
                coordinates[2 * o[p] + 1] = at[p][1];
            }
            ConstrainedDelaunay d = Picture.made(coordinates);
            d.addConstraint(o[0], o[1]);
            same("on it, order " + i, d.isGood(d.edgeBetween(o[0], o[1])), due[i]);
            d.removeConstraint(0);
            same("on it, it stays just if it is good, order " + i, Looks.answer(d, e -> e.edgeBetween(o[0],
                    o[1])).equals("NoSuchElementException"), !due[i]);
        }
    }

    private static boolean forced(int... at) {
        ConstrainedDelaunay d = constrained(at);
        return d.isGood(d.edgeBetween(0, 1));
    }

    private static void allGood() {
        sentence("Description", "All inner edges that are not constraints are good.");
        ConstrainedDelaunay d = States.full();
        int inner = 0;
        for (int e = 0; e < d.edgeCount(); e++) {
            int edge = e;
            String answer = Looks.answer(d, same -> same.isGood(edge));
            boolean constraint = d.edgeEnd(e, 0) == 0 && d.edgeEnd(e, 1) <= 10;
            same("edge " + e, constraint || !answer.equals("false"), true);
            inner += answer.startsWith("Unsupported") ? 0 : 1;
        }
        same("inner edges", inner, d.edgeCount() - d.hullSize());
        ConstrainedDelaunay rim = States.rim();
        for (int p = 2; p < 15; p++) {
            same("the fan from 0", rim.isGood(rim.edgeBetween(0, p)), true);
        }
        ConstrainedDelaunay turned = new ConstrainedDelaunay();
        for (int p = 15; p >= 0; p--) {
            turned.addPoint(rim.coordinate(p, 0), rim.coordinate(p, 1));
        }
        same("the fan, turned", turned.degree(0) + " " + turned.degree(15), "15 2");
    }

    private static void exactlyOne() {
        sentence("Description", "There is exactly one triangulation with these properties.");
        ConstrainedDelaunay d = States.rim();
        String before = Picture.triangles(d);
        int[][] pairs = {{1, 15}, {3, 9}, {9, 13}, {4, 8}, {15, 9}, {1, 3}};
        for (int[] pair : pairs) {
            d.addConstraint(pair[0], pair[1]);
        }
        String constrained = Picture.triangles(d);
        ConstrainedDelaunay other = States.rim();
        for (int i = pairs.length - 1; i >= 0; i--) {
            other.addConstraint(pairs[i][1], pairs[i][0]);
        }
        same("in whatever order the constraints come", Picture.triangles(other), constrained);
        other.movePoint(0, 99, 51);
        other.movePoint(0, 100, 50);
        same("there and back", Picture.triangles(other), constrained);
        for (int i = 0; i < pairs.length; i++) {
            d.removeConstraint(0);
            other.undo();
        }
        same("when they have gone", Picture.triangles(d), before);
        ConstrainedDelaunay fifteen = States.most();
        fifteen.removePoint(15);
        same("without the last of 16", Picture.of(fifteen), Picture.of(anew(fifteen)));
        same("it lay within", fifteen.triangleCount(), 25);
        for (int step = 1; step <= 7; step++) {
            ConstrainedDelaunay fewer = States.most();
            States.read(fewer, "0-9;9-2");
            for (int left = 15; left > 4; left--) {
                int point = 3 + step * left % (left - 3);
                Looks.outcome(fewer, e -> e.removePoint(point));
                same("as if made anew", Picture.of(fewer), Picture.of(anew(fewer)));
            }
        }
    }

    private static ConstrainedDelaunay anew(ConstrainedDelaunay d) {
        ConstrainedDelaunay other = new ConstrainedDelaunay();
        for (int p = 0; p < d.pointCount(); p++) {
            other.addPoint(d.coordinate(p, 0), d.coordinate(p, 1));
        }
        for (int c = 0; c < d.constraintCount(); c++) {
            other.addConstraint(d.constraintEnd(c, 0), d.constraintEnd(c, 1));
        }
        return other;
    }

    private static void onALine() {
        sentence("Description", "If all points lie on a line, there are no triangles, and the edges are"
                + " the segments between two points on which no other point lies; they are neither inner"
                + " edges nor hull edges.");
        int[][] lines = {{50, 50}, {0, 0, 100, 100}, {0, 0, 100, 100, 50, 50}, {5, 9, 5, 1, 5, 5},
            {0, 100, 100, 100, 99, 100, 1, 100}, {100, 0, 0, 100, 51, 49}};
        String[] edges = {"", " 0-1", " 0-2 1-2", " 0-2 1-2", " 0-3 1-2 2-3", " 0-2 1-2"};
        for (int i = 0; i < lines.length; i++) {
            ConstrainedDelaunay d = Picture.made(lines[i]);
            same("edges", Picture.edges(d), edges[i]);
            same("triangles", d.triangleCount(), 0);
            same("no hull edges", d.hullSize(), 0);
        }
        refusesEach(States::longLine, "no inner"
                + " edges", UNSUPPORTED, new int[] {0, 7, 14}, (d, n) -> d.isGood(n));
        same("no forced ones", States.line().forcedConstraints(), 0);
        same("16 on a line", States.longLine().edgeCount(), 15);
    }

    // ---- order and location

    private static void cornerOrder() {
        sentence("Description", "The corners of a triangle are given in counterclockwise order, beginning"
                + " with the lowest number.");
        int[][] at = {{0, 0}, {100, 0}, {0, 100}};
        int[][] orders = {{0, 1, 2}, {1, 2, 0}, {2, 0, 1}, {0, 2, 1}, {2, 1, 0}, {1, 0, 2}};
        for (int i = 0; i < 6; i++) {
            int[] o = orders[i];
            ConstrainedDelaunay d = Picture.made(at[o[0]][0], at[o[0]][1], at[o[1]][0], at[o[1]][1],
                    at[o[2]][0], at[o[2]][1]);
            same("order " + i, Picture.triangles(d), i < 3 ? " 0.1.2" : " 0.2.1");
        }
        same("numbers of two digits", Picture.triangles(States.rim()).endsWith(" 0.13.14 0.14.15"), true);
    }

    private static void triangleOrder() {
        sentence("Description", "The triangles are numbered from 0 in lexicographic order of their three"
                + " corners.");
        same("by the second corner", Picture.triangles(States.rim()), " 0.1.2 0.2.3 0.3.4 0.4.5 0.5.6"
                + " 0.6.7 0.7.8 0.8.9 0.9.10 0.10.11 0.11.12 0.12.13 0.13.14 0.14.15");
        same("round a point", Picture.triangles(States.wheel()), " 0.1.2 0.2.3 0.3.4 0.4.5 0.5.6 0.6.7"
                + " 0.7.8 0.8.9 0.9.10 0.10.11 0.11.12 0.12.13 0.13.14 0.14.15 0.15.1");
        same("by the first corner", Picture.triangles(Picture.made(0, 0, 100, 40, 100, 60, 0, 100, 50, 50)),
                " 0.1.4 0.4.3 1.2.4 2.3.4");
        same("by the third corner, on a"
                + " side", Picture.triangles(Picture.made(50, 0, 50, 100, 0, 50, 100, 50)),
                " 0.1.2 0.3.1");
        same("none is left out", States.most().corner(0, 0) + " " + States.most().triangleCount(), "0 27");
    }

    private static void edgeOrder() {
        sentence("Description", "The ends of an edge are given in ascending order, and the edges are"
                + " numbered from 0 in lexicographic order of their two ends.");
        same("16 on a circle", Picture.edges(States.rim()), " 0-1 0-2 0-3 0-4 0-5 0-6 0-7 0-8 0-9 0-10"
                + " 0-11 0-12 0-13 0-14 0-15 1-2 2-3 3-4 4-5 5-6 6-7 7-8 8-9 9-10 10-11 11-12 12-13 13-14"
                + " 14-15");
        ConstrainedDelaunay turned = Picture.made(90, 0, 0, 0, 45, 0);
        turned.addConstraint(2, 0);
        same("on a line", Picture.edges(turned), " 0-2 1-2");
        ConstrainedDelaunay late = Picture.square();
        late.addConstraint(3, 2);
        late.addConstraint(1, 0);
        same("constraints take no other place", Picture.edges(late), " 0-1 0-2 0-3 1-2 2-3");
    }

    private static void location() {
        sentence("Description", "A position, given by integer coordinates from 0 to 100, is at a point if"
                + " the point has this position; otherwise it is on an edge if it lies on this segment;"
                + " otherwise it is in a triangle if the triangle contains it; otherwise it is outside.");
        ConstrainedDelaunay d = Picture.made(0, 0, 100, 0, 0, 100);
        same("at a point, though on edges too", d.kindAt(0, 0) + " " + d.kindAt(100, 0), "1 1");
        same("on an edge, though in a triangle too", d.kindAt(1, 0) + " " + d.kindAt(1, 99), "2 2");
        same("in a triangle", d.kindAt(1, 1) + " " + d.kindAt(1, 98), "3 3");
        same("outside", d.kindAt(2, 99) + " " + d.kindAt(100, 100), "0 0");
        refusesEach(States::triangle, "x", ARGUMENT, new int[] {-1, 101}, (e, n) -> e.kindAt(n, 0));
        refusesEach(States::triangle, "y", ARGUMENT, new int[] {-1, 101}, (e, n) -> e.numberAt(0, n));
    }

    // ---- in doubt

    private static void zeros() {
        sentence("Description", "Numbers of the input may begin with zeros.");
        ConstrainedDelaunay d = new ConstrainedDelaunay();
        same("entries", States.read(d, "000,00;0,100;010,001;007,09;000-002;01-03"), 6);
        same("points", Picture.points(d), " 0,0 0,100 10,1 7,9");
        same("constraints", Picture.constraints(d), " 0-2 1-3");
        same("yet no more than three digits", States.read(d, "0001,1"), -103);
    }

    private static void eitherOrder() {
        sentence("Description", "inCircle tells the same for corners in either order.");
        int[][] orders = {{0, 1, 2}, {1, 2, 0}, {2, 0, 1}, {0, 2, 1}, {2, 1, 0}, {1, 0, 2}};
        ConstrainedDelaunay d = Picture.made(0, 0, 40, 0, 40, 40, 0, 40, 1, 39, 0, 41);
        for (int[] o : orders) {
            same("on it", d.inCircle(o[0], o[1], o[2], 3), 0);
            same("inside", d.inCircle(o[0], o[1], o[2], 4), 1);
            same("outside", d.inCircle(o[0], o[1], o[2], 5), -1);
        }
    }

    private static void holeByPoints() {
        sentence("Description", "hole compares triangles by their points, whatever numbers these have"
                + " without the removed one.");
        ConstrainedDelaunay d = Picture.made(0, 50, 40, 0, 40, 100, 60, 50, 100, 40);
        same("triangles", Picture.triangles(d), " 0.1.3 0.3.2 1.4.3 2.3.4");
        same("without the lowest number", d.hole(0), 1);
        same("without the greatest number", d.hole(4), 0);
        same("an ear with the lowest number", Picture.made(40, 0, 40, 40, 0, 40, 0, 0).hole(0), 1);
        ConstrainedDelaunay strip = Picture.made(0, 50, 20, 45, 20, 55, 40, 45, 40, 56, 60, 45, 60, 57,
                80, 45, 80, 58);
        same("the end of a strip", strip.hole(0), 0);
    }

    private static void goneForGood() {
        sentence("Description", "Of more than 12 changes, the older ones are gone for good, also if later"
                + " ones are undone.");
        for (int undone = 1; undone <= 12; undone++) {
            ConstrainedDelaunay d = States.longLine();
            for (int i = 1; i <= undone; i++) {
                same("undone", d.undo(), 12 - i);
            }
            for (int i = undone; i < 12; i++) {
                d.undo();
            }
            same("the first four stay", Looks.outcome(d, e -> e.undo()) + Picture.points(d),
                    "IllegalStateException 0,0 5,2 10,4 15,6");
        }
        ConstrainedDelaunay d = States.longLine();
        for (int round = 0; round < 20; round++) {
            same("one back", d.undo(), 11);
            d.addPoint(75, 31 + round);
        }
        for (int left = 11; left >= 0; left--) {
            same("down to the oldest", d.undo(), left);
        }
        same("no older one has come back", Looks.outcome(d, e -> e.undo()) + " " + d.pointCount(),
                "IllegalStateException 4");
        ConstrainedDelaunay mixed = States.longLine();
        for (int i = 0; i < 5; i++) {
            mixed.undo();
        }
        mixed.addPoint(100, 100);
        same("seven of the old ones and a new one", mixed.undo(), 7);
    }
}
