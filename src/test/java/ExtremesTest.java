import java.lang.reflect.InvocationTargetException;
import java.lang.reflect.Method;
import java.lang.reflect.Modifier;
import java.util.ArrayList;
import java.util.Arrays;
import java.util.List;
import java.util.function.Supplier;

/**
 * Each method that takes numbers, with every choice of numbers at and beyond the ends of the ranges,
 * in states from empty to full: each answer is the Reference's, each exception of exactly its kind.
 */
public final class ExtremesTest {
    private static final List<Supplier<ConstrainedDelaunay>> STATES = List.of(States::empty, States::one,
            States::line, States::triangle, States::busy, States::full, States::rim, States::most);
    private static final List<String> CHANGES =
            List.of("addPoint", "removePoint", "movePoint", "addConstraint", "removeConstraint");

    // With those that make the state, fewer than the 512 that the document gives an object.
    private static final int MOST_CALLS = 250;

    private final Supplier<ConstrainedDelaunay> state;
    private final Method method;
    private final Method other;
    private ConstrainedDelaunay made;
    private Reference due;
    private String where;
    private int calls = 0;

    private ExtremesTest(Supplier<ConstrainedDelaunay> state, Method method) throws Exception {
        this.state = state;
        this.method = method;
        other = Reference.class.getDeclaredMethod(method.getName(), method.getParameterTypes());
        begin();
    }

    public static void main(String[] args) throws Exception {
        for (Supplier<ConstrainedDelaunay> state : STATES) {
            for (Method method : ConstrainedDelaunay.class.getDeclaredMethods()) {
                List<Class<?>> types = Arrays.asList(method.getParameterTypes());
                if (Modifier.isPublic(method.getModifiers()) && types.contains(int.class)) {
                    new ExtremesTest(state, method).choose(new ArrayList<>());
                }
            }
        }
        Check.finish();
    }

    private void begin() {
        calls = 0;
        where = Picture.plan(state.get());
        made = state.get();
        due = new Reference();
        for (int p = 0; p < made.pointCount(); p++) {
            due.addPoint(made.coordinate(p, 0), made.coordinate(p, 1));
        }
        for (int c = 0; c < made.constraintCount(); c++) {
            due.addConstraint(made.constraintEnd(c, 0), made.constraintEnd(c, 1));
        }
    }

    private void choose(List<Object> chosen) throws Exception {
        if (chosen.size() == method.getParameterCount()) {
            compare(chosen.toArray());
            return;
        }
        for (Object value : values(method.getParameterTypes()[chosen.size()])) {
            chosen.add(value);
            choose(chosen);
            chosen.remove(chosen.size() - 1);
        }
    }

    private List<Object> values(Class<?> type) {
        if (type == boolean.class) {
            return List.of(true, false);
        }
        return method.getParameterCount() < 3
                ? List.of(Integer.MIN_VALUE, -65536, -1, 0, 1, 2, 3, 4, 9, 10, 13, 14, 15, 16, 26, 27, 28, 29,
                        41, 42, 50, 99, 100, 101, 256, 65536, 1 << 28, Integer.MAX_VALUE)
                : List.of(Integer.MIN_VALUE, -1, 0, 1, 3, 15, 16, 100, 101, Integer.MAX_VALUE);
    }

    private void compare(Object[] arguments) throws Exception {
        calls++;
        if (calls > MOST_CALLS || CHANGES.contains(method.getName())) {
            begin();
        }
        Check.same(method.getName() + Arrays.toString(arguments) + " on " + where,
                answer(method, made, arguments), answer(other, due, arguments));
    }

    private static Object answer(Method method, Object object, Object[] arguments) throws Exception {
        try {
            return method.invoke(object, arguments);
        } catch (InvocationTargetException thrown) {
            return thrown.getCause().getClass().getName();
        }
    }
}
