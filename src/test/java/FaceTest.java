import java.io.IOException;
import java.lang.reflect.Constructor;
import java.lang.reflect.Field;
import java.lang.reflect.Method;
import java.lang.reflect.Modifier;
import java.nio.file.Files;
import java.nio.file.Path;
import java.util.ArrayList;
import java.util.Collections;
import java.util.List;
import java.util.Set;
import java.util.TreeSet;

/** The public face, word for word, and rules of the language that a look at the class can tell. */
public final class FaceTest {
    private static final String[] FACE = {
        "addConstraint(int,int):int IndexOutOfBoundsException IllegalArgumentException"
            + " IllegalStateException UnsupportedOperationException",
        "addPoint(int,int):int IllegalArgumentException IllegalStateException"
            + " UnsupportedOperationException",
        "areaShare(int):double IndexOutOfBoundsException",
        "beyond(int,int):int IndexOutOfBoundsException IllegalArgumentException",
        "cavity(int,int):int IllegalArgumentException IllegalStateException"
            + " UnsupportedOperationException",
        "constraintCount():int",
        "constraintEnd(int,int):int IndexOutOfBoundsException IllegalArgumentException",
        "coordinate(int,int):int IndexOutOfBoundsException IllegalArgumentException",
        "corner(int,int):int IndexOutOfBoundsException IllegalArgumentException",
        "crossings(int,int):int IndexOutOfBoundsException IllegalArgumentException",
        "degree(int):int IndexOutOfBoundsException",
        "edgeBetween(int,int):int IndexOutOfBoundsException NoSuchElementException",
        "edgeCount():int",
        "edgeEnd(int,int):int IndexOutOfBoundsException IllegalArgumentException",
        "effect(int):int IndexOutOfBoundsException",
        "feed(char):int IllegalStateException",
        "forcedConstraints():int",
        "hole(int):int IndexOutOfBoundsException IllegalStateException",
        "hullPoint(int):int IndexOutOfBoundsException",
        "hullSize():int",
        "inCircle(int,int,int,int):int IndexOutOfBoundsException ArithmeticException",
        "isGood(int):boolean IndexOutOfBoundsException UnsupportedOperationException",
        "kindAt(int,int):int IllegalArgumentException",
        "meanDegree():double NoSuchElementException",
        "movePoint(int,int,int):boolean IndexOutOfBoundsException IllegalArgumentException"
            + " IllegalStateException UnsupportedOperationException",
        "neighbour(int,int):int IndexOutOfBoundsException NoSuchElementException",
        "numberAt(int,int):int IllegalArgumentException NoSuchElementException",
        "pointCount():int",
        "readInput():int",
        "removeConstraint(int):int IndexOutOfBoundsException",
        "removePoint(int):int IndexOutOfBoundsException IllegalStateException",
        "restore():int IllegalStateException",
        "save():int",
        "squaredLength(int):int IllegalArgumentException NoSuchElementException",
        "triangleCount():int",
        "turn(int,int,int):int IndexOutOfBoundsException",
        "twiceArea(int):int IndexOutOfBoundsException",
        "undo():int IllegalStateException",
        "walk(int,int,int,boolean):int IndexOutOfBoundsException IllegalArgumentException"};

    private FaceTest() {
    }

    public static void main(String[] args) throws IOException {
        publicMethods();
        nothingElse();
        names();
        source(args.length > 0 ? args[0] : "src/main/java/ConstrainedDelaunay.java");
        Check.finish();
    }

    private static void publicMethods() {
        List<String> found = new ArrayList<>();
        for (Method method : ConstrainedDelaunay.class.getDeclaredMethods()) {
            if (Modifier.isPublic(method.getModifiers())) {
                found.add(signature(method));
            }
        }
        Collections.sort(found);
        Check.same("the face", String.join("\n", found), String.join("\n", FACE));
    }

    private static String signature(Method method) {
        StringBuilder text = new StringBuilder(method.getName()).append('(');
        for (Class<?> type : method.getParameterTypes()) {
            text.append(text.charAt(text.length() - 1) == '(' ? "" : ",").append(type.getSimpleName());
        }
        text.append("):").append(method.getReturnType().getSimpleName());
        for (Class<?> thrown : method.getExceptionTypes()) {
            text.append(' ').append(thrown.getSimpleName());
        }
        return text.toString();
    }

    private static void nothingElse() {
        Class<?> face = ConstrainedDelaunay.class;
        int open = Modifier.PUBLIC | Modifier.FINAL;
        Check.same("public and final", face.getModifiers(), open);
        Check.same("constructors", face.getDeclaredConstructors().length, 1);
        for (Constructor<?> constructor : face.getDeclaredConstructors()) {
            Check.same("the constructor", constructor.getModifiers() + " "
                    + constructor.getParameterCount(), Modifier.PUBLIC + " 0");
        }
        for (Field field : face.getDeclaredFields()) {
            Check.same(field.getName(), Modifier.isPrivate(field.getModifiers()), true);
        }
        for (Method method : face.getDeclaredMethods()) {
            int sight = method.getModifiers() & (Modifier.PUBLIC | Modifier.PRIVATE);
            Check.same(method.getName(), sight != 0, true);
        }
        for (Class<?> inside : face.getDeclaredClasses()) {
            Check.same(inside.getName(), Modifier.isStatic(inside.getModifiers())
                    && !Modifier.isPublic(inside.getModifiers()), true);
        }
    }

    private static void names() {
        Set<String> face = new TreeSet<>();
        for (String row : FACE) {
            face.add(row.substring(0, row.indexOf('(')));
        }
        List<Class<?>> classes = new ArrayList<>(List.of(ConstrainedDelaunay.class.getDeclaredClasses()));
        Check.same("not too many classes", classes.size() < 12, true);
        classes.add(ConstrainedDelaunay.class);
        for (Class<?> one : classes) {
            for (Method method : one.getDeclaredMethods()) {
                boolean hidden = !Modifier.isPublic(method.getModifiers());
                Check.same(method.getName(), hidden && face.contains(method.getName()), false);
                Check.same(method.getName(), method.getParameterCount() <= 7, true);
            }
            for (Field field : one.getDeclaredFields()) {
                int state = field.getModifiers() & (Modifier.STATIC | Modifier.FINAL);
                Check.same(field.getName(), state == Modifier.STATIC, false);
            }
        }
    }

    private static void source(String path) throws IOException {
        String text = Files.readString(Path.of(path));
        String[] barred = {"->", "::", "finally", "assert ", "synchronized", "catch", "static {",
            "instanceof", "public static", "protected ", "import java.util.*", "Exact("};
        for (String word : barred) {
            Check.same("the source has " + word, text.contains(word), false);
        }
        Check.same("one import", text.split("\nimport |^import ", -1).length - 1, 1);
    }
}
