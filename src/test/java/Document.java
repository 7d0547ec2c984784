import java.io.IOException;
import java.nio.file.Files;
import java.nio.file.Path;
import java.util.ArrayList;
import java.util.List;

/** The words of the document, so that a test cannot quote what does not stand there. Without the document nothing is checked. */
final class Document {
    private static final String TEXT = read();
    private static final String WORDS = plain(TEXT);

    private Document() {
    }

    private static String read() {
        try {
            return Files.readString(Path.of("../shared/DOC.md"));
        } catch (IOException e) {
            System.out.println("no document: " + e);
            return "";
        }
    }

    /** Lines may be broken elsewhere, and a list's sign may stand before a line. */
    private static String plain(String text) {
        return text.replace("`", "").replaceAll("\\s+", " ").trim();
    }

    /** The lines of the public face, the class's own first; none without the document. */
    static List<String> face() {
        List<String> lines = new ArrayList<>();
        int start = TEXT.indexOf("public final class");
        int end = TEXT.indexOf("\n}", Math.max(0, start));
        if (start >= 0 && end >= 0) {
            lines.addAll(List.of(TEXT.substring(start, end).split("\n")));
        }
        return lines;
    }

    static boolean says(String words) {
        return WORDS.isEmpty() || WORDS.contains(plain(words));
    }
}
