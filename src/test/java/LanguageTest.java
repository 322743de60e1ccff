import java.io.IOException;
import java.lang.reflect.Executable;
import java.lang.reflect.Field;
import java.lang.reflect.Modifier;
import java.nio.file.Files;
import java.nio.file.Path;
import java.util.ArrayList;
import java.util.Arrays;
import java.util.List;
import java.util.regex.Pattern;

/** The rules of ../shared/LANGUAGE.md that can be read off the class and its source. It is run from the project's root. */
public final class LanguageTest {
    private static final Path SOURCE = Path.of("src/main/java/ReplicaStore.java");
    private static final List<String> IMPORTS = List.of("import java.util.ArrayList;");
    /** By rules 2, 4, 6 and 13; the class needs no exception at all. */
    private static final String[] RULED_OUT = {
        "->", "::", "\\bthrow\\b", "\\btry\\b", "\\bcatch\\b", "\\bfinally\\b", "\\bsynchronized\\b", "\\bassert\\b",
        "\\w+Exact\\b", "\\bstatic \\{", "\\bThread\\b", "\\bSystem\\b", "\\bRandom\\b",
        "\\bhashCode\\b", "\\btoString\\b", "\\bjava\\.(?!util\\.ArrayList;)", "\" \\+|\\+ \""
    };

    private LanguageTest() {
    }

    public static void main(String[] args) throws IOException {
        List<String> lines = Files.readAllLines(SOURCE);
        imports(lines);
        ruledOut(lines);
        methodsAreShort(lines);
        classes();
        Check.end();
    }

    private static void imports(List<String> lines) {
        List<String> found = new ArrayList<>();
        for (String line : lines) {
            if (line.startsWith("import") || line.startsWith("package")) {
                found.add(line);
            }
        }
        Check.holds("4, the imports are " + found, found.equals(IMPORTS));
    }

    private static void ruledOut(List<String> lines) {
        for (String line : lines) {
            String code = line.strip();
            if (code.startsWith("//") || code.startsWith("/*") || code.startsWith("*")) {
                continue;
            }
            for (String words : RULED_OUT) {
                Check.holds("no " + words + ": " + code, !Pattern.compile(words).matcher(code).find());
            }
        }
    }

    // A method, as any block, begins with a line that ends with ") {" and ends with the "}" that stands as far in.
    private static void methodsAreShort(List<String> lines) {
        for (int first = 0; first < lines.size(); first++) {
            String line = lines.get(first);
            if (line.matches(" {4}( {4})?[\\w<>\\[\\] ]+\\(.*\\) \\{")) {
                String end = line.substring(0, line.length() - line.stripLeading().length()) + "}";
                int length = lines.subList(first, lines.size()).indexOf(end) + 1;
                Check.holds("11, short: " + line.strip(), length > 0 && length <= 60);
            }
        }
    }

    private static void classes() {
        List<Class<?>> all = new ArrayList<>(Arrays.asList(ReplicaStore.class.getDeclaredClasses()));
        all.add(ReplicaStore.class);
        Check.holds("11, at most twelve classes", all.size() <= 12);
        for (Class<?> one : all) {
            fields(one);
            parameters(one, one.getDeclaredMethods());
            parameters(one, one.getDeclaredConstructors());
        }
    }

    private static void fields(Class<?> one) {
        int own = 0;
        for (Field field : one.getDeclaredFields()) {
            if (Modifier.isStatic(field.getModifiers())) {
                Check.holds("5, final and an int: " + field,
                    Modifier.isFinal(field.getModifiers()) && field.getType() == int.class);
            } else {
                own++;
            }
        }
        Check.holds("11, at most twenty fields in " + one, own <= 20);
    }

    private static void parameters(Class<?> one, Executable[] methods) {
        for (Executable method : methods) {
            Check.holds("11, at most seven parameters of " + method.getName() + " in " + one,
                method.getParameterCount() <= 7);
        }
    }
}
