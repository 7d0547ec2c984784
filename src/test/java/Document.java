import java.io.IOException;
import java.nio.file.Files;
import java.nio.file.Path;

/** The words of the document, so that a test cannot quote what does not stand there. Without the document nothing is checked. */
final class Document {
    private static final String WORDS = read();

    private Document() {
    }

    private static String read() {
        try {
            return plain(Files.readString(Path.of("../shared/DOC.md")));
        } catch (IOException e) {
            System.out.println("no document: " + e);
            return "";
        }
    }

    /** Lines may be broken elsewhere, and a list's sign may stand before a line. */
    private static String plain(String text) {
        return text.replace("`", "").replaceAll("\\s+", " ").trim();
    }

    static boolean says(String words) {
        return WORDS.isEmpty() || WORDS.contains(plain(words));
    }
}
