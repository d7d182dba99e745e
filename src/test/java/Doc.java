import java.io.IOException;
import java.io.UncheckedIOException;
import java.nio.file.Files;
import java.nio.file.Path;

/** The document, so that a test can say which of its sentences it holds the class to. */
final class Doc {
    private static final Path FILE = Path.of("../shared/DOC.md");
    private static final String WORDS = read();

    private Doc() {
    }

    private static String read() {
        if (!Files.exists(FILE)) {
            System.out.println(FILE + " is not here: quoted sentences are not looked up");
            return "";
        }
        try {
            return flat(Files.readString(FILE));
        } catch (IOException unread) {
            throw new UncheckedIOException(unread);
        }
    }

    private static String flat(String words) {
        return words.replaceAll("\\s+", " ");
    }

    static boolean isHere() {
        return !WORDS.isEmpty();
    }

    /** All of it, with one blank for each gap. */
    static String words() {
        return WORDS;
    }

    /** Whether the sentence stands there; without the document the class can still be held to it. */
    static boolean says(String sentence) {
        return !isHere() || WORDS.contains(flat(sentence));
    }
}
