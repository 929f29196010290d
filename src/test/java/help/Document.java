import java.io.IOException;
import java.nio.charset.StandardCharsets;
import java.nio.file.Files;
import java.nio.file.Path;

/** The words of ../shared/DOC.md, so that no test tells of a sentence that is not there; help for all tests. */
final class Document {
    private static final String WORDS = read();

    private Document() {
    }

    private static String read() {
        try {
            return oneSpace(Files.readString(Path.of(System.getProperty("document")), StandardCharsets.UTF_8));
        } catch (IOException e) {
            throw new IllegalStateException(e);
        }
    }

    private static String oneSpace(String text) {
        return text.replace("`", "").replaceAll("\\s+", " ");
    }

    static boolean says(String words) {
        return WORDS.contains(oneSpace(words));
    }
}
