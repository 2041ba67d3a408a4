import java.io.IOException;
import java.lang.reflect.InvocationTargetException;
import java.lang.reflect.Method;
import java.lang.reflect.Modifier;
import java.nio.charset.StandardCharsets;
import java.nio.file.Files;
import java.nio.file.Path;
import java.util.HashMap;
import java.util.List;
import java.util.Map;
import java.util.TreeMap;
import java.util.regex.Matcher;
import java.util.regex.Pattern;

/** README.md tells every call, every kind of node and every exception, and its examples answer what it says. */
public final class ReadmeTest {
    private static final String[] KINDS = {"PURE", "SIGN", "RANGE", "NONE", "THEN", "OR", "TRY", "LOOK", "NOT", "MANY",
        "CHAIN", "RULE", "KEEP", "KEPT"};
    private static final Pattern CALL = Pattern.compile(
        "(?:int (\\w+) = )?p\\.(\\w+)\\((.*)\\); +// (throws \\w+|-?\\d+|true|false)(?::.*)?");
    private static final Pattern HEADING = Pattern.compile("### `(\\w+) (\\w+)\\((.*)\\)`");
    private static final String NEW_OBJECT = "StagedParsers p = new StagedParsers();";

    public static void main(String[] args) throws IOException, IllegalAccessException {
        List<String> lines = Files.readAllLines(Path.of("README.md"), StandardCharsets.UTF_8);
        Map<String, Method> face = face();
        Due.is("examples", 3, examples(lines, face));
        headings(lines, face);
        for (int kind = 0; kind < KINDS.length; kind++) {
            Due.is("rows of kind " + kind, 1, rowsWith(lines, "| " + kind + " " + KINDS[kind] + " |"));
        }
        everyTestIsNamed(lines);
        Due.end("ReadmeTest");
    }

    private static Map<String, Method> face() {
        Map<String, Method> face = new TreeMap<>();
        for (Method m : StagedParsers.class.getDeclaredMethods()) {
            if (Modifier.isPublic(m.getModifiers())) {
                face.put(m.getName(), m);
            }
        }
        return face;
    }

    /** Makes the calls of each example and compares; answers how many examples there are. */
    private static int examples(List<String> lines, Map<String, Method> face) throws IllegalAccessException {
        int examples = 0;
        boolean inside = false;
        StagedParsers p = null;
        Map<String, Integer> named = new HashMap<>();
        for (String line : lines) {
            if (line.startsWith("```")) {
                inside = line.equals("```java");
                examples += inside ? 1 : 0;
            } else if (inside && line.equals(NEW_OBJECT)) {
                p = new StagedParsers();
                named.clear();
            } else if (inside) {
                Matcher m = CALL.matcher(line);
                Due.is("an example's line has the form of a call: " + line, true, m.matches() && p != null);
                Due.same(line, m.group(4), called(p, face.get(m.group(2)), m, named));
            }
        }
        return examples;
    }

    private static String called(StagedParsers p, Method method, Matcher m, Map<String, Integer> named)
            throws IllegalAccessException {
        String[] written = m.group(3).isEmpty() ? new String[0] : m.group(3).split(", ");
        Object[] arguments = new Object[written.length];
        for (int i = 0; i < written.length; i++) {
            int value = value(written[i], named);
            if (method.getParameterTypes()[i] == char.class) {
                arguments[i] = (char) value;
            } else {
                arguments[i] = value;
            }
        }
        try {
            Object answer = method.invoke(p, arguments);
            if (m.group(1) != null) {
                named.put(m.group(1), (Integer) answer);
            }
            return answer.toString();
        } catch (InvocationTargetException e) {
            return "throws " + e.getCause().getClass().getSimpleName();
        }
    }

    /** A number, a character between quotes, or a name that an earlier line gave. */
    private static int value(String written, Map<String, Integer> named) {
        if (written.startsWith("'")) {
            return written.charAt(1);
        }
        return named.containsKey(written) ? named.get(written) : Integer.parseInt(written);
    }

    /** Each call has a heading with its types, and behind it stands every exception that it throws. */
    private static void headings(List<String> lines, Map<String, Method> face) {
        Due.is("the constructor's heading", true, lines.contains("### `StagedParsers()`"));
        int found = 0;
        for (int i = 0; i < lines.size(); i++) {
            Matcher m = HEADING.matcher(lines.get(i));
            if (m.matches()) {
                found++;
                Method call = face.get(m.group(2));
                Due.same(lines.get(i), types(call), m.group(1) + " " + m.group(3).replaceAll(" \\w+(, |$)", " "));
                String section = section(lines, i);
                for (Class<?> e : call.getExceptionTypes()) {
                    Due.is(call.getName() + " tells " + e.getSimpleName(), true, section.contains(e.getSimpleName()));
                }
            }
        }
        Due.is("calls with a heading", face.size(), found);
    }

    private static String types(Method call) {
        StringBuilder types = new StringBuilder(call.getReturnType().getSimpleName()).append(' ');
        for (Class<?> type : call.getParameterTypes()) {
            types.append(type.getSimpleName()).append(' ');
        }
        return types.toString();
    }

    private static String section(List<String> lines, int heading) {
        StringBuilder section = new StringBuilder();
        for (int i = heading + 1; i < lines.size() && !lines.get(i).startsWith("##"); i++) {
            section.append(lines.get(i)).append('\n');
        }
        return section.toString();
    }

    private static int rowsWith(List<String> lines, String beginning) {
        int rows = 0;
        for (String line : lines) {
            rows += line.startsWith(beginning) ? 1 : 0;
        }
        return rows;
    }

    private static void everyTestIsNamed(List<String> lines) throws IOException {
        try (var files = Files.newDirectoryStream(Path.of("src/test/java"), "*Test.java")) {
            for (Path file : files) {
                String name = file.getFileName().toString().replace(".java", "");
                Due.is("rows of " + name, 1, rowsWith(lines, "| `" + name + "` |"));
            }
        }
    }
}
