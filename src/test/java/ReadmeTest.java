import java.io.IOException;
import java.io.UncheckedIOException;
import java.lang.reflect.InvocationTargetException;
import java.lang.reflect.Method;
import java.nio.file.Files;
import java.nio.file.Path;
import java.util.ArrayList;
import java.util.List;
import java.util.Set;
import java.util.TreeSet;
import java.util.regex.Matcher;
import java.util.regex.Pattern;
import java.util.stream.Stream;

/** What README.md says is so: its example answers what it says there, and it names each test that there is. */
public final class ReadmeTest {
    private static final Path TESTS = Path.of("src/test/java");
    private static final Pattern MADE = Pattern.compile("VotingRounds x = new VotingRounds\\((\\d+), (\\d+)\\);.*");
    private static final Pattern CALLED = Pattern.compile("x\\.(\\w+)\\(([^)]*)\\);(?:\\s*// ?(.*))?");
    private static final Pattern ANSWER = Pattern.compile("(-?\\d+|true|false|throws\\.\\w+):.*");
    private static final Pattern TEST_NAME = Pattern.compile("`(\\w+Test)`");
    private static final Pattern CALL_NAME = Pattern.compile("`(\\w+)\\(");

    public static void main(String[] args) {
        List<String> lines = readmeLines();
        String text = String.join("\n", lines);
        example(lines);
        Check.due("the tests that README.md names", found(TEST_NAME, text), testFiles());
        Check.due("the calls that README.md names", found(CALL_NAME, text), calls());
        Check.finish();
    }

    private static List<String> readmeLines() {
        try {
            return Files.readAllLines(Path.of("README.md"));
        } catch (IOException e) {
            throw new UncheckedIOException(e);
        }
    }

    private static void example(List<String> lines) {
        VotingRounds x = null;
        int answers = 0;
        for (String line : lines) {
            Matcher made = MADE.matcher(line);
            Matcher called = CALLED.matcher(line);
            if (made.matches()) {
                x = new VotingRounds(Integer.parseInt(made.group(1)), Integer.parseInt(made.group(2)));
            } else if (called.matches()) {
                answers += called(x, line, called) ? 1 : 0;
            }
        }
        Check.due("there are answers in README.md's example", answers > 0, true);
    }

    /** Whether the line says what the call answers, which then is compared. */
    private static boolean called(VotingRounds x, String line, Matcher called) {
        String got = Check.answerOf(() -> invoke(x, called.group(1), called.group(2).split(", *")));
        Matcher answer = ANSWER.matcher(called.group(3) == null ? "" : called.group(3));
        if (answer.matches()) {
            Check.due("README.md: " + line, got, answer.group(1));
        } else {
            Check.due("README.md, thrown by: " + line, got.startsWith("throws."), false);
        }
        return answer.matches();
    }

    private static Object invoke(VotingRounds x, String name, String[] texts) {
        for (Method m : VotingRounds.class.getMethods()) {
            if (m.getName().equals(name)) {
                return invoke(x, m, texts);
            }
        }
        throw new UnsupportedOperationException(name);
    }

    private static Object invoke(VotingRounds x, Method m, String[] texts) {
        List<Object> values = new ArrayList<>();
        for (int i = 0; i < m.getParameterCount(); i++) {
            boolean isLong = m.getParameterTypes()[i] == long.class;
            values.add(isLong ? (Object) Long.valueOf(texts[i]) : (Object) Integer.valueOf(texts[i]));
        }
        try {
            return m.invoke(x, values.toArray());
        } catch (InvocationTargetException e) {
            throw (RuntimeException) e.getCause();
        } catch (IllegalAccessException e) {
            throw new IllegalStateException(e);
        }
    }

    private static Set<String> found(Pattern pattern, String text) {
        Set<String> names = new TreeSet<>();
        Matcher m = pattern.matcher(text);
        while (m.find()) {
            names.add(m.group(1));
        }
        return names;
    }

    private static Set<String> testFiles() {
        Set<String> names = new TreeSet<>();
        try (Stream<Path> files = Files.list(TESTS)) {
            files.map(f -> f.getFileName().toString()).filter(f -> f.endsWith("Test.java"))
                    .forEach(f -> names.add(f.substring(0, f.length() - ".java".length())));
        } catch (IOException e) {
            throw new UncheckedIOException(e);
        }
        return names;
    }

    /** The constructor and the public methods of the class. */
    private static Set<String> calls() {
        Set<String> names = new TreeSet<>(Set.of("VotingRounds"));
        for (Method m : VotingRounds.class.getDeclaredMethods()) {
            if (java.lang.reflect.Modifier.isPublic(m.getModifiers())) {
                names.add(m.getName());
            }
        }
        return names;
    }
}
