import java.io.IOException;
import java.nio.file.Files;
import java.nio.file.Path;
import java.util.List;

/** The examples of README.md stand there as here, and answer what their comments say. */
public final class ReadmeTest {
    private final List<String> lines;

    private ReadmeTest(List<String> lines) {
        this.lines = lines;
    }

    public static void main(String[] args) throws IOException {
        ReadmeTest test = new ReadmeTest(Files.readAllLines(Path.of("README.md")));
        test.calls();
        test.text();
        Check.finish();
    }

    private void calls() {
        ConstrainedDelaunay d = Picture.square();
        d.addConstraint(1, 3);
        for (String made : List.of("0, 0", "40, 0", "40, 40", "0, 40")) {
            stands("d.addPoint(" + made + ");");
        }
        stands("d.addConstraint(1, 3);       // forces the other diagonal");
        Check.same("the diagonal", d.edgeBetween(1, 3), 3);
        Check.same("it is forced", d.forcedConstraints(), 1);
        stands("d.triangleCount();           // 2");
        Check.same("triangleCount", d.triangleCount(), 2);
        stands("d.corner(0, 2);              // 3");
        Check.same("corner", d.corner(0, 2), 3);
        stands("d.numberAt(5, 5);            // triangle 0");
        Check.same("numberAt", d.kindAt(5, 5) + " " + d.numberAt(5, 5), "3 0");
        stands("d.effect(0);                 // 1 edge would go without constraint 0");
        Check.same("effect", d.effect(0), 1);
        stands("d.undo();                    // 4 changes can still be undone");
        Check.same("undo", d.undo(), 4);
    }

    private void text() {
        String input = "0,0;40,0;40,40;0,40;1-3";
        stands("for (char c : \"" + input + "\".toCharArray()) {");
        stands("d.readInput();               // 5 entries added");
        Check.same("readInput", States.read(new ConstrainedDelaunay(), input), 5);
    }

    private void stands(String example) {
        boolean found = lines.stream().anyMatch(line -> line.strip().equals(example));
        Check.same("README.md has the line " + example, found, true);
    }
}
