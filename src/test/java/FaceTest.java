import java.io.IOException;
import java.lang.reflect.Constructor;
import java.lang.reflect.Field;
import java.lang.reflect.Method;
import java.lang.reflect.Modifier;
import java.util.Arrays;
import java.util.Set;
import java.util.TreeSet;
import java.util.regex.Matcher;
import java.util.regex.Pattern;

/**
 * The public face, as the document writes it out, and rule 1 of LANGUAGE.md: nothing beside it. The
 * path of the class is the first argument.
 */
public final class FaceTest {
    private static final Check CHECK = new Check();
    private static final Pattern METHOD = Pattern.compile("public (\\w+) (\\w+)\\(([^)]*)\\);");

    private static Set<String> face;

    public static void main(String[] args) throws IOException {
        String words = new Document(args[0]).part("The public face");
        face = methodsIn(words);
        CHECK.due("methods in the document", face.size(), 14);
        CHECK.due("the class", words.contains("public final class SudokuGrader {"), true);
        CHECK.due("the constructor", words.contains("public SudokuGrader();"), true);
        CHECK.due("the constant", words.contains("public static final int NONE = " + SudokuGrader.NONE + ";"), true);
        CHECK.due("NONE", SudokuGrader.NONE, -1);
        CHECK.due("public and final", SudokuGrader.class.getModifiers(), Modifier.PUBLIC | Modifier.FINAL);
        methods();
        constructors();
        fields();
        classesInside();
        CHECK.end();
    }

    /** Each as its answer's type, its name and its parameters' types. */
    private static Set<String> methodsIn(String words) {
        Set<String> all = new TreeSet<>();
        Matcher m = METHOD.matcher(words);
        while (m.find()) {
            String[] types = m.group(3).split(", ");
            for (int i = 0; i < types.length; i++) {
                types[i] = types[i].split(" ")[0];
            }
            all.add(m.group(1) + " " + m.group(2) + Arrays.toString(types));
        }
        return all;
    }

    private static void methods() {
        Set<String> seen = new TreeSet<>();
        Set<String> names = new TreeSet<>();
        for (String f : face) {
            names.add(f.substring(f.indexOf(' ') + 1, f.indexOf('[')));
        }
        for (Method m : SudokuGrader.class.getDeclaredMethods()) {
            if (Modifier.isPublic(m.getModifiers())) {
                String[] types = Arrays.stream(m.getParameterTypes()).map(Class::getName).toArray(String[]::new);
                seen.add(m.getReturnType().getName() + " " + m.getName() + Arrays.toString(types));
            } else {
                CHECK.due(m.getName() + " is private", Modifier.isPrivate(m.getModifiers()), true);
                CHECK.due(m.getName() + " bears a public name", names.contains(m.getName()), false);
            }
        }
        CHECK.due("the methods " + seen, seen.equals(face), true);
    }

    private static void constructors() {
        Constructor<?>[] all = SudokuGrader.class.getDeclaredConstructors();
        CHECK.due("constructors", all.length, 1);
        CHECK.due("its parameters", all[0].getParameterCount(), 0);
        CHECK.due("it is public", Modifier.isPublic(all[0].getModifiers()), true);
    }

    private static void fields() {
        for (Field f : SudokuGrader.class.getDeclaredFields()) {
            int m = f.getModifiers();
            if (f.getName().equals("NONE")) {
                CHECK.due("NONE's modifiers", m, Modifier.PUBLIC | Modifier.STATIC | Modifier.FINAL);
            } else {
                CHECK.due(f.getName() + " is private", Modifier.isPrivate(m), true);
                CHECK.due(f.getName() + " is final, if static", !Modifier.isStatic(m) || Modifier.isFinal(m), true);
            }
        }
    }

    private static void classesInside() {
        Class<?>[] inside = SudokuGrader.class.getDeclaredClasses();
        CHECK.due("at most some twelve classes", inside.length <= 12, true);
        for (Class<?> c : inside) {
            int m = c.getModifiers();
            CHECK.due(c.getName() + " is static", Modifier.isStatic(m), true);
            CHECK.due(c.getName() + " is hidden", Modifier.isPublic(m) || Modifier.isProtected(m), false);
            int own = 0;
            for (Field f : c.getDeclaredFields()) {
                own += Modifier.isStatic(f.getModifiers()) ? 0 : 1;
            }
            CHECK.due(c.getName() + " has some twenty fields at most", own <= 20, true);
        }
    }
}
