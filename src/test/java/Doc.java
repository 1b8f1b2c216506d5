import java.io.IOException;
import java.nio.file.Files;
import java.nio.file.Path;
import java.util.ArrayList;
import java.util.List;

/** The document by its sections, so that a test can name the sentence that it holds the program to. */
final class Doc {
    static final int TERMS = 0;
    static final int PROMISES = 54;

    private final String[] sections = new String[PROMISES + 1];
    private final int[] quotes = new int[PROMISES + 1];

    Doc(Path file) throws IOException {
        String rest = plain(Files.readString(file));
        for (int i = PROMISES; i >= 1; i--) {
            int from = rest.indexOf("## Promise " + i + ":");
            sections[i] = from < 0 ? "" : rest.substring(from);
            rest = from < 0 ? rest : rest.substring(0, from);
        }
        sections[TERMS] = rest;
    }

    private static String plain(String text) {
        return text.replace("&lt;", "<").replace("&gt;", ">").replaceAll("\\s+", " ");
    }

    /** Whether the sentence stands in that promise (TERMS: ahead of all promises); it counts as quoted then. */
    boolean quote(int section, String sentence) {
        boolean stands = sections[section].contains(plain(sentence));
        quotes[section] += stands ? 1 : 0;
        return stands;
    }

    List<Integer> unquoted() {
        List<Integer> left = new ArrayList<>();
        for (int i = 0; i <= PROMISES; i++) {
            if (quotes[i] == 0) {
                left.add(i);
            }
        }
        return left;
    }
}
