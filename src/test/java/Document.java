import java.io.IOException;
import java.nio.file.Files;
import java.nio.file.Path;

/** ../shared/DOC.md, asked whether it has the words that a test is about. Run it in the project's folder. */
final class Document {
    private static final String TEXT = read();

    private Document() {
    }

    static boolean says(String words) {
        return TEXT.isEmpty() || TEXT.contains(words);
    }

    /** Its words, one space between them; empty where it is not at hand: then nothing can be compared. */
    static String text() {
        return TEXT;
    }

    private static String read() {
        try {
            return Files.readString(Path.of("..", "shared", "DOC.md")).replaceAll("\\s+", " ");
        } catch (IOException e) {
            return "";
        }
    }
}
