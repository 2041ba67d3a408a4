import java.io.IOException;
import java.lang.reflect.Field;
import java.lang.reflect.Method;
import java.lang.reflect.Modifier;
import java.nio.charset.StandardCharsets;
import java.nio.file.Files;
import java.nio.file.Path;
import java.util.ArrayList;
import java.util.List;
import java.util.Set;
import java.util.TreeSet;
import java.util.regex.Matcher;
import java.util.regex.Pattern;

/** The rules of ../shared/LANGUAGE.md that can be seen from the program's text and its compiled classes. */
public final class FormTest {
    private static final Path SOURCE = Path.of("src/main/java/StagedParsers.java");
    private static final Set<String> IMPORTS = Set.of("java.util.ArrayList", "java.util.Arrays", "java.util.Iterator",
        "java.util.List", "java.util.NoSuchElementException");
    private static final Set<String> EXCEPTIONS = Set.of("IllegalStateException", "IllegalArgumentException",
        "IndexOutOfBoundsException", "ArithmeticException", "UnsupportedOperationException", "NoSuchElementException",
        "RuntimeException");
    private static final String[] NOT_THERE = {"->", "::", "finally", "synchronized", "assert", "volatile", "native",
        "static {", "System.", "Thread", "Random", "random", "getMessage", "Exact(", "while (true)", "for (;;)",
        "double", "float", "hashCode", "Object", "Class", "var "};

    public static void main(String[] args) throws IOException {
        List<String> lines = Files.readAllLines(SOURCE, StandardCharsets.UTF_8);
        List<Class<?>> classes = new ArrayList<>();
        classes.add(StagedParsers.class);
        classes.addAll(List.of(StagedParsers.class.getDeclaredClasses()));
        words(lines);
        imports(lines);
        throwsOf(lines);
        lengths(lines);
        Due.is("rule 11: at most twelve classes", true, classes.size() <= 12);
        for (Class<?> c : classes) {
            fields(c);
            methods(c);
        }
        Due.end("FormTest");
    }

    /** Rules 2, 5, 6, 9, 10 and 13. */
    private static void words(List<String> lines) {
        for (int i = 0; i < lines.size(); i++) {
            String line = lines.get(i);
            for (String word : NOT_THERE) {
                Due.is("line " + (i + 1) + " has " + word, false, line.contains(word));
            }
            Due.is("line " + (i + 1) + " has characters above 126", false, line.chars().anyMatch(c -> c > 126));
            Due.is("line " + (i + 1) + " is a package line", false, line.startsWith("package"));
        }
    }

    /** Rule 4. */
    private static void imports(List<String> lines) {
        for (String line : lines) {
            if (line.startsWith("import ")) {
                Due.is(line, true, IMPORTS.contains(line.substring(7, line.length() - 1)));
            }
        }
    }

    /** Rule 6: what is thrown, with a written text or none. */
    private static void throwsOf(List<String> lines) {
        Pattern form = Pattern.compile("throw new (\\w+)\\((\"[^\"]*\")?\\);");
        for (String line : lines) {
            if (line.trim().startsWith("throw ")) {
                Matcher m = form.matcher(line.trim());
                Due.is(line.trim() + " has the form", true, m.matches() && EXCEPTIONS.contains(m.group(1)));
            }
        }
    }

    /** Rule 11: methods of at most some sixty lines; their heads and ends are found by how far they stand in. */
    private static void lengths(List<String> lines) {
        for (String margin : new String[] {"    ", "        "}) {
            int head = -1;
            for (int i = 0; i < lines.size(); i++) {
                String line = lines.get(i);
                if (line.startsWith(margin) && line.length() > margin.length() && line.charAt(margin.length()) != ' ') {
                    boolean opens = line.contains("(") && !line.contains(" class ") && !line.endsWith(";");
                    head = opens ? i : head;
                    if (line.equals(margin + "}") && head >= 0) {
                        Due.is("lines of " + lines.get(head).trim(), true, i - head + 1 <= 60);
                        head = -1;
                    }
                }
            }
        }
    }

    /** Rules 3, 5 and 11. */
    private static void fields(Class<?> c) {
        int own = 0;
        for (Field f : c.getDeclaredFields()) {
            boolean fixed = Modifier.isStatic(f.getModifiers());
            own += fixed ? 0 : 1;
            Due.is(f + " is not static, or final", true, !fixed || Modifier.isFinal(f.getModifiers()));
            Due.is(f + " is private", true, Modifier.isPrivate(f.getModifiers()));
        }
        Due.is("fields of " + c, true, own <= 20);
    }

    /** Rules 1 and 11. */
    private static void methods(Class<?> c) {
        Set<String> face = new TreeSet<>();
        for (Method m : StagedParsers.class.getDeclaredMethods()) {
            if (Modifier.isPublic(m.getModifiers())) {
                face.add(m.getName());
            }
        }
        for (Method m : c.getDeclaredMethods()) {
            Due.is("parameters of " + m, true, m.getParameterCount() <= 7);
            boolean named = Modifier.isPublic(m.getModifiers()) || !face.contains(m.getName());
            Due.is(m + " bears no name of the face", true, named);
        }
    }
}
