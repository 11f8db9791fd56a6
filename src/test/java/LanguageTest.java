import java.io.IOException;
import java.nio.file.Files;
import java.nio.file.Path;
import java.util.regex.Matcher;
import java.util.regex.Pattern;

/** What of LANGUAGE.md can be seen in the text of the class; its path is the first argument. */
public final class LanguageTest {
    private static final Check CHECK = new Check();
    private static final int MOST_LINES = 60;

    public static void main(String[] args) throws IOException {
        String text = Files.readString(Path.of(args[0]));
        String code = text.replaceAll("(?s)/\\*.*?\\*/", "").replaceAll("//[^\n]*", "");
        forbidden(code);
        library(code);
        lengths(code);
        CHECK.end();
    }

    private static void forbidden(String code) {
        String[] words = {"throw", "throws", "try", "catch", "finally", "synchronized", "assert", "package", "native",
            "volatile", "transient", "var", "->", "::", "\"", "Random", "Thread", "hashCode", "toString", "Exact",
            "super", "protected", "new Object"};
        for (String word : words) {
            String pattern = Character.isLetter(word.charAt(0)) ? "\\b" + word + "\\b" : Pattern.quote(word);
            CHECK.due("'" + word + "' in the code", Pattern.compile(pattern).matcher(code).find(), false);
        }
    }

    private static void library(String code) {
        Matcher imports = Pattern.compile("import ([^;]+);").matcher(code);
        while (imports.find()) {
            CHECK.due("import " + imports.group(1), imports.group(1).equals("java.util.Arrays"), true);
        }
        Matcher calls = Pattern.compile("\\b(Arrays|Integer|Math|System|Long)\\.(\\w+)").matcher(code);
        while (calls.find()) {
            String call = calls.group();
            CHECK.due(call, call.matches("Arrays\\.fill|Integer\\.bitCount|Math\\.max"), true);
        }
    }

    /** A method begins with a line that opens a brace behind a parameter list, at 4 or 8 spaces. */
    private static void lengths(String code) {
        String[] lines = code.split("\n");
        Pattern head = Pattern.compile("^( {4}| {8})(?:\\w[\\w\\[\\] ]* )?(\\w+)\\(([^)]*)\\) \\{$");
        int methods = 0;
        for (int i = 0; i < lines.length; i++) {
            Matcher m = head.matcher(lines[i]);
            if (!m.matches()) {
                continue;
            }
            methods++;
            int end = i;
            while (end < lines.length && !lines[end].equals(m.group(1) + "}")) {
                end++;
            }
            CHECK.due("short: " + lines[i].trim(), end - i < MOST_LINES, true);
            CHECK.due("parameters: " + lines[i].trim(), m.group(3).split(",").length <= 7, true);
            recursion(lines, i, end, m.group(2));
        }
        CHECK.due("methods were seen", methods > 50, true);
    }

    /** Rule 8: "Recursion: a private static method that calls itself", with what is left to go as an argument. */
    private static void recursion(String[] lines, int from, int to, String name) {
        Pattern itself = Pattern.compile("(?<![.\\w])" + name + "\\(");
        for (int i = from + 1; i < to && i < lines.length; i++) {
            if (itself.matcher(lines[i]).find()) {
                CHECK.due("private static: " + lines[from].trim(), lines[from].contains("private static "), true);
                CHECK.due("goes down by one: " + lines[i].trim(), lines[i].contains("left - 1"), true);
            }
        }
    }
}
