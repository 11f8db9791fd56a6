import java.io.File;
import java.io.IOException;
import java.net.URL;
import java.net.URLClassLoader;
import java.nio.file.Files;
import java.nio.file.Path;
import java.util.ArrayList;
import java.util.List;
import java.util.regex.Matcher;
import java.util.regex.Pattern;
import java.util.stream.Stream;
import javax.tools.JavaCompiler;
import javax.tools.ToolProvider;

/**
 * README.md's program is compiled and run: each call with an answer behind it must answer that. And
 * it names every call of the face and every test. The path of the class is the first argument.
 */
public final class ReadmeTest {
    private static final Check CHECK = new Check();
    private static final Pattern BLOCK = Pattern.compile("```java\n(.*?)```", Pattern.DOTALL);
    private static final Pattern ASKED = Pattern.compile("(\\w\\.\\w+\\([^;]*\\)); +// (true|false|NONE|-?\\d+): .+");
    private static final Pattern CALL = Pattern.compile("public \\w+ (\\w+)\\(");

    private static final List<String> CALLS = new ArrayList<>();
    private static final List<String> DUE = new ArrayList<>();

    public static void main(String[] args) throws Exception {
        Path root = Path.of(args[0]).toAbsolutePath().getParent().resolve("../../..").normalize();
        String readme = Files.readString(root.resolve("README.md"));
        List<String> got = run(program(readme));
        CHECK.due("answers", got.size(), DUE.size());
        for (int i = 0; i < Math.min(got.size(), DUE.size()); i++) {
            CHECK.due(CALLS.get(i) + ", " + got.get(i) + " for " + DUE.get(i), got.get(i).equals(DUE.get(i)), true);
        }
        namesEveryCall(new Document(args[0]));
        namesEveryTest(readme, root.resolve("src/test/java"));
        CHECK.end();
    }

    /** All blocks as one method, which keeps the answers that are asked for in a list. */
    private static String program(String readme) {
        StringBuilder code = new StringBuilder("public final class Readme {\n"
                + "public static void run(java.util.List<String> got) {\n");
        Matcher block = BLOCK.matcher(readme);
        while (block.find()) {
            for (String line : block.group(1).split("\n")) {
                Matcher asked = ASKED.matcher(line);
                if (asked.matches()) {
                    CALLS.add(asked.group(1));
                    DUE.add(asked.group(2).equals("NONE") ? "" + SudokuGrader.NONE : asked.group(2));
                    code.append("got.add(String.valueOf(").append(asked.group(1)).append("));\n");
                } else {
                    code.append(line).append('\n');
                }
            }
        }
        return code.append("}\n}\n").toString();
    }

    private static List<String> run(String program) throws Exception {
        List<String> got = new ArrayList<>();
        Path folder = Files.createTempDirectory("readme");
        Path source = folder.resolve("Readme.java");
        try {
            Files.writeString(source, program);
            JavaCompiler compiler = ToolProvider.getSystemJavaCompiler();
            CHECK.due("there is a compiler", compiler != null, true);
            String path = System.getProperty("java.class.path");
            int failed = compiler.run(null, null, null, "-cp", path, "-d", folder.toString(), source.toString());
            CHECK.due("what the compiler answers", failed, 0);
            if (failed == 0) {
                try (URLClassLoader loader = new URLClassLoader(new URL[] {folder.toUri().toURL()})) {
                    loader.loadClass("Readme").getMethod("run", List.class).invoke(null, got);
                }
            }
        } finally {
            for (File file : folder.toFile().listFiles()) {
                file.delete();
            }
            folder.toFile().delete();
        }
        return got;
    }

    private static void namesEveryCall(Document document) {
        Matcher call = CALL.matcher(document.part("The public face").replace("public SudokuGrader(", ""));
        while (call.find()) {
            String name = call.group(1);
            CHECK.due(name + " is used", CALLS.stream().anyMatch(c -> c.contains("." + name + "(")), true);
        }
    }

    private static void namesEveryTest(String readme, Path folder) throws IOException {
        try (Stream<Path> files = Files.list(folder)) {
            for (Path file : files.sorted().toList()) {
                String name = file.getFileName().toString().replace(".java", "");
                if (name.endsWith("Test")) {
                    CHECK.due(name + " is told of", Pattern.compile("\\b" + name + "\\b").matcher(readme).find(), true);
                }
            }
        }
    }
}
