import java.util.List;
import java.util.function.Consumer;
import java.util.function.Function;
import java.util.function.Supplier;

/**
 * All that can be seen of a state, also what only later calls tell: the input, the changes that can
 * be undone, and what is saved. Each look uses up an object, so the state is made anew for each.
 */
final class Looks {
    private static final List<Function<ConstrainedDelaunay, String>> LOOKS =
            List.of(Looks::triangulation, Looks::input, Looks::past, Looks::saved);

    private Looks() {
    }

    static String after(Supplier<ConstrainedDelaunay> state, Consumer<ConstrainedDelaunay> call) {
        StringBuilder text = new StringBuilder();
        for (Function<ConstrainedDelaunay, String> look : LOOKS) {
            ConstrainedDelaunay d = state.get();
            outcome(d, call);
            text.append(look.apply(d)).append(" | ");
        }
        return text.toString();
    }

    /** The kind that the call throws, by its exact name. */
    static String outcome(ConstrainedDelaunay d, Consumer<ConstrainedDelaunay> call) {
        return answer(d, same -> {
            call.accept(same);
            return "nothing thrown";
        });
    }

    static String answer(ConstrainedDelaunay d, Function<ConstrainedDelaunay, Object> call) {
        try {
            return call.apply(d).toString();
        } catch (RuntimeException thrown) {
            return thrown.getClass().getSimpleName();
        }
    }

    private static String triangulation(ConstrainedDelaunay d) {
        return Picture.of(d) + " beyond" + Picture.beyonds(d);
    }

    private static String input(ConstrainedDelaunay d) {
        return "feed " + answer(d, same -> same.feed('1')) + " read " + answer(d, same -> same.readInput())
                + " " + Picture.plan(d);
    }

    private static String past(ConstrainedDelaunay d) {
        StringBuilder text = new StringBuilder("undo");
        String left = "";
        for (int i = 0; i < 14 && !left.equals("IllegalStateException"); i++) {
            left = answer(d, same -> same.undo());
            text.append(' ').append(left).append(' ').append(ends(d));
        }
        return text + " " + Picture.plan(d);
    }

    // What changes from one undo to the next shows in the counts and in the last two of each.
    private static String ends(ConstrainedDelaunay d) {
        int points = d.pointCount();
        int constraints = d.constraintCount();
        StringBuilder text = new StringBuilder(points + "/" + constraints);
        for (int p = Math.max(0, points - 2); p < points; p++) {
            text.append(' ').append(d.coordinate(p, 0)).append(',').append(d.coordinate(p, 1));
        }
        for (int c = Math.max(0, constraints - 2); c < constraints; c++) {
            text.append(' ').append(d.constraintEnd(c, 0)).append('-').append(d.constraintEnd(c, 1));
        }
        return text.toString();
    }

    private static String saved(ConstrainedDelaunay d) {
        return "restore " + answer(d, same -> same.restore()) + " " + Picture.plan(d) + " undo "
                + answer(d, same -> same.undo());
    }
}
