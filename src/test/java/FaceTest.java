import java.lang.reflect.Constructor;
import java.lang.reflect.Field;
import java.lang.reflect.Method;
import java.lang.reflect.Modifier;
import java.nio.file.Files;
import java.nio.file.Path;
import java.util.Arrays;
import java.util.Set;
import java.util.TreeSet;
import java.util.regex.Matcher;
import java.util.regex.Pattern;
import java.util.stream.Stream;

/** The public face, and those rules of LANGUAGE.md that a program can look at. Runs in the project's directory. */
public final class FaceTest {
    private static final Set<String> METHODS = Set.of(
        "type(1)", "clear(0)", "tells(0)", "loads(1)", "breaks(1)", "mends(1)", "cambers(2)", "undo(0)", "leaf(2)", "bend(2)",
        "bears(3)", "rate(1)", "least(1)", "knee(1)", "chosen(3)", "sees(2)", "forget(0)", "which(1)", "ask(0)", "keep(1)",
        "back(1)", "count(1)");
    private static final Set<String> CONSTANTS = Set.of("BAD=-1", "STATE=-2", "FULL=-3", "NONE=-9", "NO=-1000000", "NOT=-2000000");
    private static final String[] FORBIDDEN = {
        "\\bthrow\\b", "\\bthrows\\b", "\\btry\\b", "\\bcatch\\b", "\\bsynchronized\\b", "\\bassert\\b", "->", "::", "\\bimport\\b",
        "\\bpackage\\b", "\\w+Exact\\b", "\\bprotected\\b", "\\bSystem\\.(?!arraycopy)", "\\bnative\\b", "\\bvolatile\\b"};

    /** What rule 4 leaves of the library, as far as the program uses it. */
    private static final Set<String> LIBRARY = Set.of("Integer.bitCount", "Math.max", "Math.min", "System.arraycopy");
    private static final Pattern LIBRARY_CALL = Pattern.compile("\\b([A-Z]\\w*\\.[a-z]\\w*)\\(");
    /** A statement has a blank ahead of its bracket, a method has none. */
    private static final Pattern METHOD_HEAD = Pattern.compile("^( +)(?:[\\w\\[\\]]+ )*(\\w+)\\([^()]*\\) \\{$");
    private static final int LONGEST_METHOD = 60, MOST_PARAMETERS = 7, MOST_FIELDS = 20;

    public static void main(String[] args) throws Exception {
        theClass();
        methods();
        constants();
        classesInside();
        sizes();
        String source = Files.readString(Path.of("src/main/java/StackedLeaves.java"));
        signs(source);
        String code = source.replaceAll("(?s)/\\*.*?\\*/", "").replaceAll("//.*", "");
        forbiddenWords(code);
        library(code);
        methodsOfTheSource(code);
        Due.end();
    }

    private static void theClass() {
        int modifiers = StackedLeaves.class.getModifiers();
        Due.is("public and final", Modifier.isPublic(modifiers) && Modifier.isFinal(modifiers) ? 1 : 0, 1);
        Constructor<?>[] constructors = StackedLeaves.class.getDeclaredConstructors();
        Due.is("constructors", constructors.length, 1);
        Due.is("a public one", Modifier.isPublic(constructors[0].getModifiers()) ? 1 : 0, 1);
        Due.is("without arguments", constructors[0].getParameterCount(), 0);
    }

    private static void methods() {
        Set<String> found = new TreeSet<>();
        for (Method m : StackedLeaves.class.getDeclaredMethods()) {
            if (Modifier.isPrivate(m.getModifiers())) {
                isNoPublicName(m);
                continue;
            }
            boolean plain = Modifier.isPublic(m.getModifiers()) && !Modifier.isStatic(m.getModifiers()) && m.getReturnType() == int.class;
            for (Class<?> type : m.getParameterTypes()) {
                plain &= type == int.class;
            }
            Due.is(m + " is as the face has it", plain ? 1 : 0, 1);
            found.add(m.getName() + "(" + m.getParameterCount() + ")");
        }
        Due.same("methods", found.toString(), new TreeSet<>(METHODS).toString());
    }

    private static void isNoPublicName(Method m) {
        for (String known : METHODS) {
            Due.is(m + " has a name of its own", known.startsWith(m.getName() + "(") ? 1 : 0, 0);
        }
    }

    private static void constants() throws IllegalAccessException {
        Set<String> found = new TreeSet<>();
        for (Field f : StackedLeaves.class.getDeclaredFields()) {
            int modifiers = f.getModifiers();
            Due.is(f + ", static, is final", Modifier.isStatic(modifiers) && !Modifier.isFinal(modifiers) ? 1 : 0, 0);
            if (!Modifier.isPrivate(modifiers)) {
                Due.is(f + " is a constant", Modifier.isPublic(modifiers) && Modifier.isStatic(modifiers) ? 1 : 0, 1);
                found.add(f.getName() + "=" + f.getInt(null));
            }
        }
        Due.same("constants", found.toString(), new TreeSet<>(CONSTANTS).toString());
    }

    private static void classesInside() {
        Class<?>[] inside = StackedLeaves.class.getDeclaredClasses();
        Due.is("twelve classes at most", inside.length < 12 ? 1 : 0, 1);
        for (Class<?> c : inside) {
            int modifiers = c.getModifiers();
            boolean closed = !Modifier.isPublic(modifiers) && !Modifier.isProtected(modifiers);
            Due.is(c + " is static and not public", Modifier.isStatic(modifiers) && closed ? 1 : 0, 1);
            for (Method m : c.getDeclaredMethods()) {
                isNoPublicName(m);
            }
            for (Field f : c.getDeclaredFields()) {
                boolean changes = Modifier.isStatic(f.getModifiers()) && !Modifier.isFinal(f.getModifiers());
                Due.is(f + ", static, is final", changes ? 1 : 0, 0);
            }
        }
    }

    /** Rule 11, and that no class but the outermost makes classes inside. */
    private static void sizes() {
        sizeOf(StackedLeaves.class);
        for (Class<?> c : StackedLeaves.class.getDeclaredClasses()) {
            sizeOf(c);
            Due.is("classes inside " + c, c.getDeclaredClasses().length, 0);
        }
    }

    private static void sizeOf(Class<?> c) {
        for (Method m : c.getDeclaredMethods()) {
            Due.is(m + " takes few parameters", m.getParameterCount() <= MOST_PARAMETERS ? 1 : 0, 1);
        }
        long fields = Stream.of(c.getDeclaredFields()).filter(f -> !Modifier.isStatic(f.getModifiers())).count();
        Due.is(c + " has few fields", fields <= MOST_FIELDS ? 1 : 0, 1);
    }

    private static void signs(String source) {
        for (int i = 0; i < source.length(); i++) {
            Due.is("a sign beyond 127 at " + i, source.charAt(i) < 127 ? 1 : 0, 1);
        }
    }

    private static void forbiddenWords(String code) {
        for (String forbidden : FORBIDDEN) {
            Due.is(forbidden + " in the source", Pattern.compile(forbidden).matcher(code).find() ? 1 : 0, 0);
        }
    }

    private static void library(String code) {
        for (Matcher call = LIBRARY_CALL.matcher(code); call.find();) {
            Due.is(call.group(1) + " is of the library that is left", LIBRARY.contains(call.group(1)) ? 1 : 0, 1);
        }
    }

    /** Methods stay short, and none but a constructor makes an object or an array: the room of a run is not used up by calls. */
    private static void methodsOfTheSource(String code) {
        String[] lines = code.split("\n");
        int found = 0;
        for (int i = 0; i < lines.length; i++) {
            Matcher head = METHOD_HEAD.matcher(lines[i]);
            if (!head.find()) {
                continue;
            }
            String name = head.group(2);
            int end = Arrays.asList(lines).subList(i, lines.length).indexOf(head.group(1) + "}");
            Due.is(name + "() is short", end >= 0 && end < LONGEST_METHOD ? 1 : 0, 1);
            if (Character.isLowerCase(name.charAt(0))) {
                found++;
                String body = String.join("\n", Arrays.asList(lines).subList(i, i + Math.max(0, end)));
                Due.is(name + "() makes an object", Pattern.compile("\\bnew\\b").matcher(body).find() ? 1 : 0, 0);
            }
        }
        Due.is("methods found in the source", found, methodsOfTheClasses());
    }

    private static int methodsOfTheClasses() {
        int methods = StackedLeaves.class.getDeclaredMethods().length;
        for (Class<?> c : StackedLeaves.class.getDeclaredClasses()) {
            methods += c.getDeclaredMethods().length;
        }
        return methods;
    }
}
