import java.io.IOException;
import java.nio.file.Files;
import java.nio.file.Path;
import java.util.ArrayList;
import java.util.Arrays;
import java.util.List;
import java.util.TreeMap;

/** The text of the document by its promises; 0 is all that stands ahead of promise 1. */
final class Doc {
    private static final Path FILE = Path.of("../shared/DOC.md");

    private final TreeMap<Integer, String> sections = new TreeMap<>();

    Doc() throws IOException {
        String text = Files.readString(FILE).replaceAll("(?s)```java.*?```", " ").replace("```text", " ").replace("```", " ");
        String promises = text.substring(0, text.indexOf("## Not promised"));
        String[] parts = promises.split("## Promise ");
        for (int i = 0; i < parts.length; i++) {
            sections.put(i, oneSpaced(parts[i]));
        }
    }

    static boolean isHere() {
        return Files.isRegularFile(FILE);
    }

    private static String oneSpaced(String text) {
        return text.replaceAll("\\s+", " ").trim();
    }

    int promises() {
        return sections.lastKey();
    }

    /** Whether the quote stands there just once, so that it is plain which sentence it is. */
    boolean hasOnce(int promise, String quote) {
        String section = sections.get(promise);
        int at = section.indexOf(quote);
        return at >= 0 && section.indexOf(quote, at + 1) < 0;
    }

    /** The clauses there of which no quote has anything. */
    List<String> unquoted(int promise, List<String> quotes) {
        String section = sections.get(promise);
        boolean[] isQuoted = new boolean[section.length()];
        for (String quote : quotes) {
            int at = section.indexOf(quote);
            if (at >= 0) {
                Arrays.fill(isQuoted, at, at + quote.length(), true);
            }
        }
        List<String> unquoted = new ArrayList<>();
        int start = 0;
        for (String clause : section.split("(?<=[,;:.])")) {
            boolean isAnyQuoted = false;
            for (int i = start; i < start + clause.length(); i++) {
                isAnyQuoted |= isQuoted[i];
            }
            if (!isAnyQuoted) {
                unquoted.add(clause.trim());
            }
            start += clause.length();
        }
        return unquoted;
    }
}
