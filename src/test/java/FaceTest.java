import java.lang.reflect.Constructor;
import java.lang.reflect.Field;
import java.lang.reflect.Method;
import java.lang.reflect.Modifier;
import java.util.TreeSet;

/** The class has the document's face and nothing else that can be seen from outside. */
public final class FaceTest {
    private static final String[] FACE = {
        "begins boolean(int,int) IllegalArgumentException",
        "clear int()",
        "count int(int)",
        "empty boolean(int) IllegalArgumentException",
        "latest int(int)",
        "leads int(int) IllegalArgumentException",
        "node int(int,int,int,int) IllegalArgumentException IllegalStateException",
        "parse int(int) IllegalStateException IllegalArgumentException UnsupportedOperationException"
            + " NoSuchElementException",
        "register int(int)",
        "rule int(int,int) IllegalArgumentException",
        "stage int()",
        "type int(char) IllegalArgumentException IllegalStateException",
    };

    public static void main(String[] args) {
        Class<?> c = StagedParsers.class;
        Due.is("public final", Modifier.PUBLIC | Modifier.FINAL, c.getModifiers());
        TreeSet<String> seen = new TreeSet<>();
        for (Method m : c.getDeclaredMethods()) {
            if (!Modifier.isPrivate(m.getModifiers()) && !m.isSynthetic()) {
                Due.is(m.getName() + " is public and no more", Modifier.PUBLIC, m.getModifiers());
                seen.add(written(m));
            }
        }
        Due.same("methods", new TreeSet<>(java.util.List.of(FACE)).toString(), seen.toString());
        constructors(c);
        fields(c);
        for (Class<?> inside : c.getDeclaredClasses()) {
            Due.is(inside + " is static", true, Modifier.isStatic(inside.getModifiers()));
            Due.is(inside + " is not public", false, Modifier.isPublic(inside.getModifiers()));
        }
        Due.end("FaceTest");
    }

    private static void constructors(Class<?> c) {
        Constructor<?>[] all = c.getDeclaredConstructors();
        Due.is("constructors", 1, all.length);
        Due.is("constructor's parameters", 0, all[0].getParameterCount());
        Due.is("constructor is public", Modifier.PUBLIC, all[0].getModifiers());
    }

    private static void fields(Class<?> c) {
        for (Field f : c.getDeclaredFields()) {
            int modifiers = f.getModifiers();
            Due.is(f + " is private", true, Modifier.isPrivate(modifiers) || f.isSynthetic());
            if (Modifier.isStatic(modifiers)) {
                Due.is(f + " is final", true, Modifier.isFinal(modifiers));
            }
        }
    }

    private static String written(Method m) {
        StringBuilder s = new StringBuilder(m.getName());
        s.append(' ').append(m.getReturnType().getSimpleName()).append('(');
        Class<?>[] parameters = m.getParameterTypes();
        for (int i = 0; i < parameters.length; i++) {
            s.append(i == 0 ? "" : ",").append(parameters[i].getSimpleName());
        }
        s.append(')');
        for (Class<?> e : m.getExceptionTypes()) {
            s.append(' ').append(e.getSimpleName());
        }
        return s.toString();
    }
}
