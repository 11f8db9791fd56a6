import java.io.IOException;
import java.nio.file.Files;
import java.nio.file.Path;
import java.util.ArrayList;
import java.util.List;
import java.util.regex.Matcher;
import java.util.regex.Pattern;
import java.util.stream.Stream;

/**
 * The tests of boundary cases say the document's own words, and leave no words of promises 1 to 15
 * without a test. The path of the class is the first argument: the document is found from there.
 */
public final class QuotesTest {
    private static final Check CHECK = new Check();
    private static final Pattern SAYS = Pattern.compile("EDGES\\.says\\(\"([^\"]+)\",((?:\\s*\\+?\\s*\"[^\"]*\")+)\\)");
    private static final Pattern TEXT = Pattern.compile("\"([^\"]*)\"");

    private static final List<String[]> QUOTES = new ArrayList<>();

    public static void main(String[] args) throws IOException {
        Path source = Path.of(args[0]).toAbsolutePath().getParent();
        String document = plain(Files.readString(source.resolve("../../../../shared/DOC.md")));
        readQuotes(source.resolve("../../test/java"));
        for (String[] quote : QUOTES) {
            CHECK.due(quote[0] + " says '" + quote[1] + "'", partOf(document, quote[0]).contains(quote[1]), true);
        }
        for (int n = 1; n <= 15; n++) {
            nothingUntested(document, "Promise " + n);
        }
        CHECK.end();
    }

    private static String plain(String text) {
        return text.replaceAll("\\s+", " ");
    }

    private static void readQuotes(Path folder) throws IOException {
        List<Path> files;
        try (Stream<Path> all = Files.list(folder)) {
            files = all.filter(f -> f.getFileName().toString().matches("Edge\\w*Test\\.java")).sorted().toList();
        }
        for (Path file : files) {
            String code = Files.readString(file);
            int before = QUOTES.size();
            Matcher m = SAYS.matcher(code);
            while (m.find()) {
                StringBuilder sentence = new StringBuilder();
                Matcher t = TEXT.matcher(m.group(2));
                while (t.find()) {
                    sentence.append(t.group(1));
                }
                QUOTES.add(new String[] {m.group(1), sentence.toString()});
            }
            int said = code.split("EDGES\\.says\\(", -1).length - 1;
            CHECK.due("sentences read in " + file.getFileName(), QUOTES.size() - before, said);
        }
    }

    /** The document from the words that begin this part to those that begin the next one. */
    private static String partOf(String document, String where) {
        int part = where.startsWith("PART ") ? Integer.parseInt(where.substring(5)) : 0;
        String from = part > 0 ? where + ". " : "## " + where;
        String to = part == 0 ? "## " : part == 5 ? "The constants:" : "PART " + (part + 1) + ". ";
        int begin = document.indexOf(from);
        int end = begin < 0 ? -1 : document.indexOf(to, begin + from.length());
        return begin < 0 ? "" : document.substring(begin, end < 0 ? document.length() : end);
    }

    private static void nothingUntested(String document, String where) {
        String text = partOf(document, where + ":");
        int begin = text.indexOf("`: ");
        CHECK.due(where + " stands in the document", begin > 0, true);
        String words = begin < 0 ? "" : text.substring(begin + 3);
        boolean[] tested = new boolean[words.length()];
        for (String[] quote : QUOTES) {
            int at = quote[0].equals(where) ? words.indexOf(quote[1]) : -1;
            for (int i = at; at >= 0 && i < at + quote[1].length(); i++) {
                tested[i] = true;
            }
        }
        StringBuilder left = new StringBuilder();
        for (int i = 0; i < words.length(); i++) {
            left.append(tested[i] || ".,:; ".indexOf(words.charAt(i)) >= 0 ? "" : words.substring(i, i + 1));
        }
        CHECK.due(where + ": letters without a test, '" + left + "'", left.length(), 0);
    }
}
