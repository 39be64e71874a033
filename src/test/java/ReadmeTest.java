import java.io.IOException;
import java.lang.reflect.Method;
import java.lang.reflect.Modifier;
import java.nio.file.Files;
import java.nio.file.Path;
import java.util.Arrays;
import java.util.List;
import java.util.regex.Matcher;
import java.util.regex.Pattern;
import java.util.stream.Stream;

/** README.md: its example answers as it says, and it names each call and each test. Runs in the project's directory. */
public final class ReadmeTest {
    private static final Pattern TEXT = Pattern.compile("String text = \"([^\"]*)\"");
    private static final Pattern CALL = Pattern.compile("(?m)^pack\\.(\\w+)\\(([^)]*)\\); *// (-?\\d+):");

    public static void main(String[] args) throws Exception {
        String page = Files.readString(Path.of("README.md"));
        example(page);
        namesEachCall(page);
        namesEachTest(page);
        Due.end();
    }

    private static void example(String page) throws ReflectiveOperationException {
        Matcher text = TEXT.matcher(page);
        Due.is("an example's text", text.find() ? 1 : 0, 1);
        StackedLeaves pack = new StackedLeaves();
        Due.type(pack, text.group(1));
        int lines = 0;
        for (Matcher line = CALL.matcher(page); line.find(); lines++) {
            String call = line.group(1) + "(" + line.group(2) + ")";
            Due.is(call, answer(pack, line.group(1), line.group(2)), Long.parseLong(line.group(3)));
        }
        long all = page.lines().filter(l -> l.startsWith("pack.")).count();
        Due.is("lines of the example with an answer", lines, all);
        Due.is("there is an example", lines > 0 ? 1 : 0, 1);
    }

    private static int answer(StackedLeaves pack, String name, String arguments) throws ReflectiveOperationException {
        Object[] numbers = Stream.of(arguments.split(",")).map(String::trim).filter(a -> !a.isEmpty()).map(Integer::valueOf).toArray();
        Class<?>[] types = new Class<?>[numbers.length];
        Arrays.fill(types, int.class);
        return (int) StackedLeaves.class.getMethod(name, types).invoke(pack, numbers);
    }

    private static void namesEachCall(String page) {
        for (Method m : StackedLeaves.class.getDeclaredMethods()) {
            if (Modifier.isPublic(m.getModifiers())) {
                long commas = Math.max(0, m.getParameterCount() - 1);
                String row = "(?m)^\\|.*`" + m.getName() + "\\((" + (m.getParameterCount() == 0 ? "" : "\\w+(, \\w+){" + commas + "}") + ")\\)`";
                Due.is("a row of " + m.getName(), Pattern.compile(row).matcher(page).find() ? 1 : 0, 1);
            }
        }
    }

    private static void namesEachTest(String page) throws IOException {
        try (Stream<Path> files = Files.list(Path.of("src/test/java"))) {
            List<String> names = files.map(f -> f.getFileName().toString()).filter(n -> n.endsWith("Test.java")).sorted().toList();
            for (String name : names) {
                String test = name.substring(0, name.length() - ".java".length());
                Due.is("README.md names " + test, page.contains("`" + test + "`") ? 1 : 0, 1);
            }
        }
    }
}
