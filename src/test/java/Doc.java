import java.io.IOException;
import java.nio.file.Files;
import java.nio.file.Path;
import java.util.LinkedHashSet;
import java.util.Set;

/** The sentences of the document, each behind its place: "2: Adds a point." stands in Promise 2. */
final class Doc {
    private final Set<String> sentences = new LinkedHashSet<>();
    private final StringBuilder paragraph = new StringBuilder();
    private String place = "";
    private boolean inCode = false;

    private Doc() {
    }

    static Set<String> sentences(Path file) throws IOException {
        Doc doc = new Doc();
        for (String line : Files.readAllLines(file)) {
            doc.read(line.strip());
        }
        doc.endParagraph();
        return doc.sentences;
    }

    private void read(String line) {
        boolean fence = line.startsWith("```");
        boolean alone = line.startsWith("- ") || line.startsWith("Throws ");
        if (fence || alone || line.isEmpty() || line.startsWith("#") || line.startsWith("----")) {
            endParagraph();
        }
        if (fence) {
            inCode = !inCode;
        } else if (line.startsWith("#")) {
            place = line.replaceFirst("^#+ ", "").replaceFirst("^Promise ([0-9]+):.*", "$1");
        } else if (alone) {
            add(line);
        } else if (!inCode && !line.startsWith("----") && !isSignature(line)) {
            paragraph.append(' ').append(line);
        }
    }

    private boolean isSignature(String line) {
        return line.startsWith("`") && line.endsWith("`");
    }

    private void endParagraph() {
        for (String sentence : paragraph.toString().strip().split("(?<=\\.) ")) {
            add(sentence);
        }
        paragraph.setLength(0);
    }

    private void add(String sentence) {
        if (!inCode && !sentence.isEmpty()) {
            sentences.add(place + ": " + sentence);
        }
    }
}
