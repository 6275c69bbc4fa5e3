import java.io.IOException;
import java.nio.file.Files;
import java.nio.file.Path;
import java.util.regex.Matcher;
import java.util.regex.Pattern;
import java.util.stream.Stream;

/** Each sentence of the document stands above a test: what no test quotes is headings, the face, and what is not promised. */
public final class CoverTest extends Due {
    private static final Pattern TEXT = Pattern.compile("\"((?:[^\"\\\\\n]|\\\\.)*)\"");
    private static final int SHORTEST = 6;
    private static final int PROMISES = 40;
    /** What needs no test of its own: this only leads to what is told elsewhere, or stands between sentences. */
    private static final Pattern FREE = Pattern.compile("## Promise \\d+: [a-zA-Z ]+ `[^`]*`: ((PEACE|GAME)\\.)?|```text|```|"
        + "==== \\d\\. (A MINUTE\\. )?|a DRAW of m:|TOKENS:|[ .;,:(]");

    public static void main(String[] args) throws Exception {
        String document = read("../shared/DOC.md").replaceAll("\\s+", " ");
        boolean[] isQuoted = quoted(document);
        int start = document.indexOf("## Terms") + "## Terms".length();
        int end = document.indexOf("## Not promised");
        holds("the document has its parts", start > "## Terms".length() && end > start);
        for (int from = start; from < end; from++) {
            int till = from;
            while (till < end && !isQuoted[till]) {
                till++;
            }
            holds("a test quotes: " + document.substring(from, till), till == from);
            from = till;
        }
        promises(document);
        end("the document's sentences");
    }

    private static boolean[] quoted(String document) throws IOException {
        boolean[] isQuoted = new boolean[document.length() + 1];
        try (Stream<Path> all = Files.list(Path.of("src/test/java"))) {
            for (Path test : all.filter(p -> p.toString().endsWith("Edges.java")).toList()) {
                Matcher texts = TEXT.matcher(Files.readString(test));
                while (texts.find()) {
                    String words = texts.group(1).replace("\\\"", "\"").replace("\\\\", "\\");
                    if (words.length() >= SHORTEST && words.contains(" ")) {
                        quote(document, words, isQuoted);
                    }
                }
            }
        }
        Matcher free = FREE.matcher(document);
        while (free.find()) {
            mark(isQuoted, free.start(), free.end());
        }
        return isQuoted;
    }

    private static void quote(String document, String words, boolean[] isQuoted) {
        for (int at = document.indexOf(words); at >= 0; at = document.indexOf(words, at + 1)) {
            mark(isQuoted, at, at + words.length());
        }
    }

    private static void mark(boolean[] isQuoted, int from, int till) {
        for (int i = from; i < till; i++) {
            isQuoted[i] = true;
        }
    }

    private static void promises(String document) {
        for (int n = 1; n <= PROMISES; n++) {
            holds("promise " + n + " stands in the document", document.contains("## Promise " + n + ": "));
        }
        holds("no promise behind the last one", !document.contains("## Promise " + (PROMISES + 1) + ": "));
    }
}
