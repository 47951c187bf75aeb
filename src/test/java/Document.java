import java.io.IOException;
import java.io.UncheckedIOException;
import java.nio.file.Files;
import java.nio.file.Path;

/** The document itself, so that a test can't be for a sentence that it doesn't have. */
final class Document {
    private static final String TEXT = read();

    private Document() {
    }

    /** Whether these words stand under the promise, or in the terms ahead of all promises. */
    static boolean says(int promise, String words) {
        return terms().contains(words) || section(promise).contains(words);
    }

    /** The rows of the public face between its first brace and its last. */
    static String[] face() {
        String head = "public final class RoomForHelp { ";
        int from = TEXT.indexOf(head);
        int to = TEXT.indexOf(" } ```", Math.max(from, 0));
        return from < 0 || to < 0 ? new String[0] : TEXT.substring(from + head.length(), to).split(" (?=public)");
    }

    private static String terms() {
        return TEXT.substring(0, start(1));
    }

    private static String section(int promise) {
        int next = TEXT.indexOf(" ## ", start(promise) + 1);
        return TEXT.substring(start(promise), next < 0 ? TEXT.length() : next);
    }

    private static int start(int promise) {
        int at = TEXT.indexOf(" ## Promise " + promise + ":");
        return at < 0 ? TEXT.length() : at;
    }

    private static String read() {
        try {
            return Files.readString(Path.of("../shared/DOC.md")).replaceAll("\\s+", " ");
        } catch (IOException e) {
            throw new UncheckedIOException(e);
        }
    }
}
