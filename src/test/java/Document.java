import java.io.IOException;
import java.io.UncheckedIOException;
import java.nio.file.Files;
import java.nio.file.Path;

/** The document itself, so that a test can't be for a sentence that it doesn't have. */
final class Document {
    private static final String TEXT = read();

    private Document() {
    }

    /** Whether these words stand under the promise, or in the terms ahead of all promises. */
    static boolean says(int promise, String words) {
        return terms().contains(words) || section(promise).contains(words);
    }

    private static String terms() {
        return TEXT.substring(0, start(1));
    }

    private static String section(int promise) {
        int next = TEXT.indexOf(" ## ", start(promise) + 1);
        return TEXT.substring(start(promise), next < 0 ? TEXT.length() : next);
    }

    private static int start(int promise) {
        int at = TEXT.indexOf(" ## Promise " + promise + ":");
        return at < 0 ? TEXT.length() : at;
    }

    private static String read() {
        try {
            return Files.readString(Path.of("../shared/DOC.md")).replaceAll("\\s+", " ");
        } catch (IOException e) {
            throw new UncheckedIOException(e);
        }
    }
}
