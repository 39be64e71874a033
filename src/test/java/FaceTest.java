import java.io.IOException;
import java.lang.reflect.Constructor;
import java.lang.reflect.Field;
import java.lang.reflect.Method;
import java.lang.reflect.Modifier;
import java.nio.file.Files;
import java.nio.file.Path;
import java.util.Set;
import java.util.TreeSet;
import java.util.regex.Pattern;

/** The public face, and those rules of LANGUAGE.md that a program can look at. Runs in the project's directory. */
public final class FaceTest {
    private static final Set<String> METHODS = Set.of(
        "type(1)", "clear(0)", "tells(0)", "loads(1)", "breaks(1)", "mends(1)", "cambers(2)", "undo(0)", "leaf(2)", "bend(2)",
        "bears(3)", "rate(1)", "least(1)", "knee(1)", "chosen(3)", "sees(2)", "forget(0)", "which(1)", "ask(0)", "keep(1)",
        "back(1)", "count(1)");
    private static final Set<String> CONSTANTS = Set.of("BAD=-1", "STATE=-2", "FULL=-3", "NONE=-9", "NO=-1000000", "NOT=-2000000");
    private static final String[] FORBIDDEN = {
        "\\bthrow\\b", "\\bthrows\\b", "\\btry\\b", "\\bcatch\\b", "\\bsynchronized\\b", "\\bassert\\b", "->", "::", "\\bimport\\b",
        "\\bpackage\\b", "\\w+Exact\\b", "\\bprotected\\b", "\\bSystem\\.(?!arraycopy)", "\\bnative\\b", "\\bvolatile\\b"};

    public static void main(String[] args) throws Exception {
        theClass();
        methods();
        constants();
        classesInside();
        source();
        Due.end();
    }

    private static void theClass() {
        int modifiers = StackedLeaves.class.getModifiers();
        Due.is("public and final", Modifier.isPublic(modifiers) && Modifier.isFinal(modifiers) ? 1 : 0, 1);
        Constructor<?>[] constructors = StackedLeaves.class.getDeclaredConstructors();
        Due.is("constructors", constructors.length, 1);
        Due.is("a public one", Modifier.isPublic(constructors[0].getModifiers()) ? 1 : 0, 1);
        Due.is("without arguments", constructors[0].getParameterCount(), 0);
    }

    private static void methods() {
        Set<String> found = new TreeSet<>();
        for (Method m : StackedLeaves.class.getDeclaredMethods()) {
            if (Modifier.isPrivate(m.getModifiers())) {
                isNoPublicName(m);
                continue;
            }
            boolean plain = Modifier.isPublic(m.getModifiers()) && !Modifier.isStatic(m.getModifiers()) && m.getReturnType() == int.class;
            for (Class<?> type : m.getParameterTypes()) {
                plain &= type == int.class;
            }
            Due.is(m + " is as the face has it", plain ? 1 : 0, 1);
            found.add(m.getName() + "(" + m.getParameterCount() + ")");
        }
        Due.same("methods", found.toString(), new TreeSet<>(METHODS).toString());
    }

    private static void isNoPublicName(Method m) {
        for (String known : METHODS) {
            Due.is(m + " has a name of its own", known.startsWith(m.getName() + "(") ? 1 : 0, 0);
        }
    }

    private static void constants() throws IllegalAccessException {
        Set<String> found = new TreeSet<>();
        for (Field f : StackedLeaves.class.getDeclaredFields()) {
            int modifiers = f.getModifiers();
            Due.is(f + ", static, is final", Modifier.isStatic(modifiers) && !Modifier.isFinal(modifiers) ? 1 : 0, 0);
            if (!Modifier.isPrivate(modifiers)) {
                Due.is(f + " is a constant", Modifier.isPublic(modifiers) && Modifier.isStatic(modifiers) ? 1 : 0, 1);
                found.add(f.getName() + "=" + f.getInt(null));
            }
        }
        Due.same("constants", found.toString(), new TreeSet<>(CONSTANTS).toString());
    }

    private static void classesInside() {
        Class<?>[] inside = StackedLeaves.class.getDeclaredClasses();
        Due.is("twelve classes at most", inside.length < 12 ? 1 : 0, 1);
        for (Class<?> c : inside) {
            int modifiers = c.getModifiers();
            boolean closed = !Modifier.isPublic(modifiers) && !Modifier.isProtected(modifiers);
            Due.is(c + " is static and not public", Modifier.isStatic(modifiers) && closed ? 1 : 0, 1);
            for (Method m : c.getDeclaredMethods()) {
                isNoPublicName(m);
            }
            for (Field f : c.getDeclaredFields()) {
                boolean changes = Modifier.isStatic(f.getModifiers()) && !Modifier.isFinal(f.getModifiers());
                Due.is(f + ", static, is final", changes ? 1 : 0, 0);
            }
        }
    }

    private static void source() throws IOException {
        String source = Files.readString(Path.of("src/main/java/StackedLeaves.java"));
        String code = source.replaceAll("(?s)/\\*.*?\\*/", "").replaceAll("//.*", "");
        for (String forbidden : FORBIDDEN) {
            Due.is(forbidden + " in the source", Pattern.compile(forbidden).matcher(code).find() ? 1 : 0, 0);
        }
        for (int i = 0; i < source.length(); i++) {
            char c = source.charAt(i);
            Due.is("a sign beyond 127 at " + i, c < 127 ? 1 : 0, 1);
        }
    }
}
