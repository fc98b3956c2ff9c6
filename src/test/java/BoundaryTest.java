import java.io.IOException;
import java.nio.file.Path;
import java.util.Set;
import java.util.TreeSet;

/**
 * The tests by sentence, and a look whether each sentence of the document has one. A sentence may go
 * without that only introduces others, and a parameter whose line names no number and no bound.
 */
public final class BoundaryTest {
    private static final Set<String> INTRODUCTIONS = Set.of(
            "What it is: A constrained Delaunay triangulation of few points with integer coordinates:"
                    + " points and constraint segments come and go, and the triangulation, its hull, point"
                    + " location, and what single changes would do can be asked for.",
            "Description: Points.", "Description: Constraints.", "Description: Turns.",
            "Description: Triangulation.", "Description: Order.", "Description: Location.",
            "Description: Exceptions.", "Description: In doubt.",
            "Description: The constructor and the methods follow, a promise each: the signature, then what"
                    + " it does.");

    private BoundaryTest() {
    }

    public static void main(String[] args) throws IOException {
        DescriptionBoundaries.all();
        RefusalBoundaries.all();
        PointBoundaries.all();
        ConstraintBoundaries.all();
        TextBoundaries.all();
        TriangleBoundaries.all();
        EdgeBoundaries.all();
        ExactBoundaries.all();
        LocationBoundaries.all();
        WhatIfBoundaries.all();
        UndoBoundaries.all();
        Boundary.endSentence();
        compare(Doc.sentences(Path.of(args.length > 1 ? args[1] : "../shared/DOC.md")));
        Check.finish();
    }

    private static void compare(Set<String> sentences) {
        Set<String> untested = new TreeSet<>(sentences);
        untested.removeAll(Boundary.tested());
        untested.removeIf(BoundaryTest::needsNone);
        Check.same("sentences of the document without a test", untested, Set.of());
        Set<String> unknown = new TreeSet<>(Boundary.tested());
        unknown.removeAll(sentences);
        Check.same("tested sentences that the document does not have", unknown, Set.of());
        Check.same("the document has sentences", sentences.size() > 200, true);
    }

    private static boolean needsNone(String sentence) {
        boolean parameter = sentence.matches("[0-9]+: - `.*");
        boolean bounded = sentence.matches("[0-9]+: .*([0-9]|any ).*");
        return parameter && !bounded || INTRODUCTIONS.contains(sentence) || sentence.startsWith("Not promised: ");
    }
}
