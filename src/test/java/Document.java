import java.io.IOException;
import java.io.UncheckedIOException;
import java.nio.file.Files;
import java.nio.file.Path;

/** The words of the document, so that tests can be named after its sentences. */
final class Document {
    private static final Path PATH = Path.of("..", "shared", "DOC.md");

    private final String words;

    Document() {
        try {
            words = plain(Files.readString(PATH));
        } catch (IOException e) {
            throw new UncheckedIOException(e);
        }
    }

    /** Whether these words stand in the section of this name ("Terms", "Promise 7"). */
    boolean says(String section, String sentence) {
        int start = words.indexOf(heading(section));
        if (start < 0) {
            return false;
        }
        int end = words.indexOf(" ## ", start + 1);
        String text = end < 0 ? words.substring(start) : words.substring(start, end);
        return text.contains(plain(sentence));
    }

    private static String heading(String section) {
        return section.startsWith("Promise") ? " ## " + section + ": " : " ## " + section + " ";
    }

    private static String plain(String text) {
        return text.replaceAll("\\s+", " ");
    }
}
