import java.io.IOException;
import java.io.UncheckedIOException;
import java.nio.file.Files;
import java.nio.file.Path;
import java.util.ArrayList;
import java.util.List;

/** The document's own words, so that a test stands under the sentence that asks for it and no sentence is left out. */
final class Document {
    private static final Path PLACE = Path.of("../shared/DOC.md");

    private final String words;
    private final boolean[] quoted;

    Document() {
        words = plain(read());
        quoted = new boolean[words.length()];
    }

    private static String read() {
        try {
            return Files.readString(PLACE);
        } catch (IOException e) {
            throw new UncheckedIOException(e);
        }
    }

    /** What frames the sentences (headings, fences, faces of calls, titles of groups) says nothing that can be tested. */
    private static String plain(String text) {
        return text
            .replaceAll("(?m)^#.*$", "")
            .replaceAll("(?s)```java.*?```", "")
            .replaceAll("(?m)^```.*$", "")
            .replaceAll("==== [123] ", "")
            .replaceAll("(?m)^Ahead of the calls .* says: ---- .*$", "")
            .replaceAll("(?m)^`[^`]*`: ", "")
            .replaceAll("\\s+", " ");
    }

    /** Whether these words stand in the document, at one place. */
    boolean quote(String some) {
        int place = words.indexOf(some);
        if (place < 0 || words.indexOf(some, place + 1) >= 0) return false;
        for (int i = 0; i < some.length(); i++) quoted[place + i] = true;
        return true;
    }

    /** What no test stands under, from the terms to the last promise. */
    List<String> leftOut() {
        List<String> found = new ArrayList<>();
        int end = words.indexOf("How the state is held inside the object is free");
        StringBuilder piece = new StringBuilder();
        for (int i = words.indexOf("REFUSALS, of several"); i <= end; i++) {
            if (i < end && !quoted[i]) {
                piece.append(words.charAt(i));
            } else if (piece.length() > 0) {
                if (!piece.toString().isBlank()) found.add(piece.toString());
                piece.setLength(0);
            }
        }
        return found;
    }
}
