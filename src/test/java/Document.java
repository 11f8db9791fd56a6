import java.io.IOException;
import java.nio.file.Files;
import java.nio.file.Path;

/** The document and its parts; it is found from the class's path, as .ci/run finds the shared tests. */
final class Document {
    private final String text;

    Document(String classPath) throws IOException {
        Path source = Path.of(classPath).toAbsolutePath().getParent();
        String read = Files.readString(source.resolve("../../../../shared/DOC.md"));
        text = read.replaceAll("```\\w*", " ").replaceAll("\\s+", " ");
    }

    /** From the words that begin this part to those that begin the next one; empty if there is none. */
    String part(String where) {
        int number = where.startsWith("PART ") ? Integer.parseInt(where.substring(5)) : 0;
        boolean constants = where.equals("The constants");
        String from = number > 0 ? where + ". " : constants ? where + ": " : "## " + where;
        String to = number == 0 ? "## " : number == 5 ? "The constants: " : "PART " + (number + 1) + ". ";
        int begin = text.indexOf(from);
        int end = begin < 0 ? -1 : text.indexOf(to, begin + from.length());
        return begin < 0 ? "" : text.substring(begin + from.length(), end < 0 ? text.length() : end);
    }
}
