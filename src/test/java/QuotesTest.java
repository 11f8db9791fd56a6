import java.io.IOException;
import java.nio.file.Files;
import java.nio.file.Path;
import java.util.ArrayList;
import java.util.List;
import java.util.regex.Matcher;
import java.util.regex.Pattern;
import java.util.stream.Stream;

/**
 * The Edge tests say the document's own words, and leave no words of it without a test, from "What
 * it is" to promise 15; its face is FaceTest's. The path of the class is the first argument.
 */
public final class QuotesTest {
    private static final Check CHECK = new Check();
    private static final Pattern SAYS = Pattern.compile("EDGES\\.says\\(\"([^\"]+)\",((?:\\s*\\+?\\s*\"[^\"]*\")+)\\)");
    private static final Pattern TEXT = Pattern.compile("\"([^\"]*)\"");

    private static final List<String[]> QUOTES = new ArrayList<>();

    public static void main(String[] args) throws IOException {
        Document document = new Document(args[0]);
        readQuotes(Path.of(args[0]).toAbsolutePath().getParent().resolve("../../test/java"));
        for (String[] quote : QUOTES) {
            CHECK.due(quote[0] + " says '" + quote[1] + "'", document.part(quote[0]).contains(quote[1]), true);
        }
        nothingUntested("What it is", document.part("What it is"));
        for (int n = 1; n <= 5; n++) {
            nothingUntested("PART " + n, withoutTitle(document.part("PART " + n)));
        }
        nothingUntested("The constants", document.part("The constants"));
        for (int n = 1; n <= 15; n++) {
            nothingUntested("Promise " + n, withoutFace(document.part("Promise " + n + ":")));
        }
        CHECK.end();
    }

    private static void readQuotes(Path folder) throws IOException {
        List<Path> files;
        try (Stream<Path> all = Files.list(folder)) {
            files = all.filter(f -> f.getFileName().toString().matches("Edge\\w*Test\\.java")).sorted().toList();
        }
        for (Path file : files) {
            String code = Files.readString(file);
            int before = QUOTES.size();
            Matcher m = SAYS.matcher(code);
            while (m.find()) {
                StringBuilder sentence = new StringBuilder();
                Matcher t = TEXT.matcher(m.group(2));
                while (t.find()) {
                    sentence.append(t.group(1));
                }
                QUOTES.add(new String[] {m.group(1), sentence.toString()});
            }
            int said = code.split("EDGES\\.says\\(", -1).length - 1;
            CHECK.due("sentences read in " + file.getFileName(), QUOTES.size() - before, said);
        }
    }

    /** Some parts begin with a word that only names them. */
    private static String withoutTitle(String part) {
        return part.replaceFirst("^[A-Z]+\\. ", "");
    }

    /** A promise begins with its method, in backquotes. */
    private static String withoutFace(String part) {
        int face = part.indexOf("`: ");
        return face < 0 ? part : part.substring(face + 3);
    }

    private static void nothingUntested(String where, String words) {
        CHECK.due(where + " stands in the document", words.isBlank(), false);
        boolean[] tested = new boolean[words.length()];
        for (String[] quote : QUOTES) {
            int at = quote[0].equals(where) ? words.indexOf(quote[1]) : -1;
            for (int i = at; at >= 0 && i < at + quote[1].length(); i++) {
                tested[i] = true;
            }
        }
        StringBuilder left = new StringBuilder();
        for (int i = 0; i < words.length(); i++) {
            left.append(tested[i] || ".,:; ".indexOf(words.charAt(i)) >= 0 ? "" : words.substring(i, i + 1));
        }
        CHECK.due(where + ": letters without a test, '" + left + "'", left.length(), 0);
    }
}
