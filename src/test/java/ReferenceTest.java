import java.lang.reflect.InvocationTargetException;
import java.lang.reflect.Method;
import java.lang.reflect.Modifier;
import java.util.ArrayList;
import java.util.Comparator;
import java.util.List;
import java.util.Random;

/** Long runs of calls, seeded, each answer compared with the Reference's. */
public final class ReferenceTest {
    private static final int RUNS = 240;
    private static final int CALLS = 512;
    private static final String[] TEXTS = {
        "0,0;4,0;4,4;0,4;0-2", "1,1;1,2;2,1", "0-1;1-2;2-3", "3-4;0-5", "007,010;10,7", "101,0",
        "1,1;1,1;2,2", "12", "", "1,", "1-", "1,2;", ";", "1;2", "1,2,3", "1-2-3", "1000,1", "1,1000",
        "1,1x", "0-0", "2,3;0-99", " 1,2", "5,5;5-0;6,6", "99,100;100,99;000,000", "-1,2", "1,-2",
        "0,9;1,9;2,9;3,9;4,9;5,9;6,9;7,9;8,9;9,9;0,8;1,8;2,8;3,8;4,8", "\u0661,2", "3,3;\u00e9"};

    private final Random random;
    private final int run;
    private final int scale;
    private final int step;
    private final ConstrainedDelaunay made = new ConstrainedDelaunay();
    private final Reference due = new Reference();
    private final List<Method> methods = new ArrayList<>();

    private ReferenceTest(int run) {
        this.run = run;
        random = new Random(7000 + run);
        scale = new int[] {101, 6, 4, 9, 3, 101, 12, 16}[run % 8];
        step = scale < 101 && random.nextBoolean() ? 100 / scale : 1;
        for (Method method : ConstrainedDelaunay.class.getDeclaredMethods()) {
            if (Modifier.isPublic(method.getModifiers())) {
                methods.add(method);
            }
        }
        methods.sort(Comparator.comparing(Method::getName));
    }

    public static void main(String[] args) throws Exception {
        for (int run = 0; run < RUNS; run++) {
            new ReferenceTest(run).go();
        }
        Check.finish();
    }

    private void go() throws Exception {
        int wish = run % 5 == 0 ? 4 : run % 5 == 1 ? 16 : 9;
        for (int call = 0; call < CALLS; call++) {
            Method method = choose(wish);
            if (method.getName().equals("readInput") && random.nextInt(4) > 0) {
                String text = TEXTS[random.nextInt(TEXTS.length)];
                for (int i = 0; i < text.length() && call < CALLS - 1; i++, call++) {
                    compare(byName("feed"), new Object[] {text.charAt(i)});
                }
            }
            compare(method, arguments(method));
        }
    }

    private Method choose(int wish) {
        if (made.pointCount() < wish && random.nextInt(3) == 0) {
            return byName("addPoint");
        }
        if (due.constraintCount() < run % 11 && random.nextInt(8) == 0) {
            return byName("addConstraint");
        }
        Method method = methods.get(random.nextInt(methods.size()));
        boolean rare = method.getName().equals("restore") || method.getName().equals("removePoint")
                || method.getName().equals("undo") || method.getName().equals("removeConstraint");
        rare |= method.getName().equals("addConstraint") && due.constraintCount() >= run % 11;
        return rare && random.nextInt(3) > 0 ? choose(wish) : method;
    }

    private Method byName(String name) {
        for (Method method : methods) {
            if (method.getName().equals(name)) {
                return method;
            }
        }
        throw new AssertionError(name);
    }

    private Object[] arguments(Method method) {
        String name = method.getName();
        Object[] row = new Object[method.getParameterCount()];
        for (int i = 0; i < row.length; i++) {
            Class<?> type = method.getParameterTypes()[i];
            if (type == boolean.class) {
                row[i] = random.nextBoolean();
            } else if (type == char.class) {
                row[i] = "0123456789,-;x".charAt(random.nextInt(14));
            } else {
                row[i] = number(name, i);
            }
        }
        return row;
    }

    private int number(String name, int place) {
        if (random.nextInt(60) == 0) {
            return new int[] {-1, 101, Integer.MAX_VALUE, Integer.MIN_VALUE, 16, 3}[random.nextInt(6)];
        }
        switch (name) {
            case "addPoint": case "kindAt": case "numberAt": case "cavity":
                return position();
            case "movePoint": case "walk":
                return place > 0 ? position() : upTo(name.equals("walk") ? due.triangleCount()
                        : due.pointCount());
            case "coordinate": case "edgeEnd": case "constraintEnd": case "isGood": case "effect":
            case "removeConstraint":
                return place > 0 ? upTo(2) : upTo(name.equals("coordinate") ? due.pointCount()
                        : name.equals("edgeEnd") || name.equals("isGood") ? due.edgeCount()
                        : due.constraintCount());
            case "corner": case "beyond": case "twiceArea": case "areaShare":
                return place > 0 ? upTo(3) : upTo(due.triangleCount());
            case "squaredLength":
                return upTo(3);
            default:
                return name.equals("neighbour") && place > 0 ? upTo(5) : upTo(due.pointCount());
        }
    }

    private int upTo(int size) {
        return random.nextInt(24) == 0 ? size : random.nextInt(Math.max(1, size));
    }

    private int position() {
        return random.nextInt(scale) * step;
    }

    private void compare(Method method, Object[] arguments) throws Exception {
        Method other = Reference.class.getDeclaredMethod(method.getName(), method.getParameterTypes());
        String what = "run " + run + ": " + method.getName() + java.util.Arrays.toString(arguments);
        Check.same(what, answer(method, made, arguments), answer(other, due, arguments));
    }

    private static Object answer(Method method, Object object, Object[] arguments) throws Exception {
        try {
            return method.invoke(object, arguments);
        } catch (InvocationTargetException thrown) {
            return thrown.getCause().getClass().getName();
        }
    }
}
