/** All that can be seen of an object without changing it, as a text. */
final class Picture {
    private Picture() {
    }

    static String of(ConstrainedDelaunay d) {
        return plan(d) + " triangles" + triangles(d) + " edges" + edges(d) + " hull" + hull(d);
    }

    static String plan(ConstrainedDelaunay d) {
        return "points" + points(d) + " constraints" + constraints(d);
    }

    static String points(ConstrainedDelaunay d) {
        StringBuilder text = new StringBuilder();
        int count = d.pointCount();
        for (int p = 0; p < count; p++) {
            text.append(' ').append(d.coordinate(p, 0)).append(',').append(d.coordinate(p, 1));
        }
        return text.toString();
    }

    static String constraints(ConstrainedDelaunay d) {
        StringBuilder text = new StringBuilder();
        int count = d.constraintCount();
        for (int c = 0; c < count; c++) {
            text.append(' ').append(d.constraintEnd(c, 0)).append('-').append(d.constraintEnd(c, 1));
        }
        return text.toString();
    }

    static String triangles(ConstrainedDelaunay d) {
        StringBuilder text = new StringBuilder();
        int count = d.triangleCount();
        for (int t = 0; t < count; t++) {
            text.append(' ').append(d.corner(t, 0)).append('.').append(d.corner(t, 1)).append('.')
                    .append(d.corner(t, 2));
        }
        return text.toString();
    }

    static String beyonds(ConstrainedDelaunay d) {
        StringBuilder text = new StringBuilder();
        int count = d.triangleCount();
        for (int t = 0; t < count; t++) {
            text.append(' ').append(d.beyond(t, 0)).append('.').append(d.beyond(t, 1)).append('.')
                    .append(d.beyond(t, 2));
        }
        return text.toString();
    }

    static String edges(ConstrainedDelaunay d) {
        StringBuilder text = new StringBuilder();
        int count = d.edgeCount();
        for (int e = 0; e < count; e++) {
            text.append(' ').append(d.edgeEnd(e, 0)).append('-').append(d.edgeEnd(e, 1));
        }
        return text.toString();
    }

    static String hull(ConstrainedDelaunay d) {
        StringBuilder text = new StringBuilder();
        int count = d.hullSize();
        for (int i = 0; i < count; i++) {
            text.append(' ').append(d.hullPoint(i));
        }
        return text.toString();
    }

    static ConstrainedDelaunay made(int... coordinates) {
        ConstrainedDelaunay d = new ConstrainedDelaunay();
        for (int i = 0; i + 1 < coordinates.length; i += 2) {
            d.addPoint(coordinates[i], coordinates[i + 1]);
        }
        return d;
    }

    static ConstrainedDelaunay square() {
        return made(0, 0, 40, 0, 40, 40, 0, 40);
    }
}
