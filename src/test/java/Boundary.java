import java.util.ArrayList;
import java.util.List;
import java.util.NoSuchElementException;
import java.util.Set;
import java.util.TreeSet;
import java.util.function.Consumer;
import java.util.function.ObjIntConsumer;
import java.util.function.Supplier;

/** Tests by sentence: each test says which sentence of the document it would catch broken. */
abstract class Boundary {
    static final Class<?> INDEX = IndexOutOfBoundsException.class;
    static final Class<?> ARGUMENT = IllegalArgumentException.class;
    static final Class<?> STATE = IllegalStateException.class;
    static final Class<?> UNSUPPORTED = UnsupportedOperationException.class;
    static final Class<?> MISSING = NoSuchElementException.class;
    static final Class<?> ARITHMETIC = ArithmeticException.class;

    static final int LEAST = Integer.MIN_VALUE;
    static final int GREATEST = Integer.MAX_VALUE;

    // Just off the range, far off, and such as fall into it when only their low bits are kept.
    static final int[] NO_COORDINATE = {-1, -2, -50, -100, 101, 102, 127, 128, 150, 256, 306, 1000, 65536,
        65586, 1 << 24, 1 << 30, LEAST, LEAST + 50, GREATEST, GREATEST - 1};
    static final int[] NO_BIT = {-1, -2, 2, 3, 4, 32, 256, 65536, 1 << 30, LEAST, LEAST + 1, GREATEST};
    static final int[] NO_THIRD = {-1, -2, -3, 3, 4, 5, 32, 256, 65536, 1 << 30, LEAST, GREATEST};

    private static final Set<String> TESTED = new TreeSet<>();
    private static String words = "";
    private static int checks = 0;

    /** Begins the test of a sentence that stands in the document, or of several that say the same. */
    static void sentence(String place, String... sentences) {
        endSentence();
        words = place + ": " + String.join(" ", sentences);
        for (String one : sentences) {
            TESTED.add(place + ": " + one);
        }
        checks = 0;
    }

    static void endSentence() {
        Check.same(words + ": it is tested", words.isEmpty() || checks > 0, true);
    }

    static Set<String> tested() {
        return TESTED;
    }

    static void same(String what, Object got, Object want) {
        checks++;
        Check.same(words + " -- " + what, got, want);
    }

    /** Numbers that are no index below count; the large ones wrap around when shifted or multiplied. */
    static int[] outside(int count) {
        List<Integer> numbers = new ArrayList<>(List.of(-1, -2, -16, -32, LEAST, LEAST + 1, count, count + 1,
                count + 32, 64, 256, 65536, 1 << 28, 1 << 30, 1431655766, -1431655765, GREATEST - 1,
                GREATEST));
        numbers.removeIf(n -> n >= 0 && n < count);
        return numbers.stream().mapToInt(Integer::intValue).toArray();
    }

    /** The call throws exactly this kind, and nothing that can be seen later tells that it was made. */
    static void refuses(Supplier<ConstrainedDelaunay> state, String what, Class<?> kind,
            Consumer<ConstrainedDelaunay> call) {
        same(what, Looks.outcome(state.get(), call), kind.getSimpleName());
        unchanged(state, what, call);
    }

    static void refusesEach(Supplier<ConstrainedDelaunay> state, String what, Class<?> kind, int[] numbers,
            ObjIntConsumer<ConstrainedDelaunay> call) {
        for (int n : numbers) {
            same(what + " with " + n, Looks.outcome(state.get(), d -> call.accept(d, n)),
                    kind.getSimpleName());
        }
        unchanged(state, what, d -> {
            for (int n : numbers) {
                Looks.outcome(d, same -> call.accept(same, n));
            }
        });
    }

    private static void unchanged(Supplier<ConstrainedDelaunay> state, String what,
            Consumer<ConstrainedDelaunay> call) {
        same(what + ": the state after it", Looks.after(state, call), Looks.after(state, d -> { }));
    }
}
