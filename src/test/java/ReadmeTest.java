import java.lang.reflect.Method;
import java.lang.reflect.Modifier;
import java.nio.charset.StandardCharsets;
import java.nio.file.DirectoryStream;
import java.nio.file.Files;
import java.nio.file.Path;
import java.util.Arrays;
import java.util.regex.Matcher;
import java.util.regex.Pattern;

/** README.md: its examples answer as it says, and it names every call and every test. It is run from the project's root. */
public final class ReadmeTest {
    private static final Due due = new Due();
    private static final Pattern MADE = Pattern.compile("OppositeThreads x = new OppositeThreads\\(\\);");
    private static final Pattern TYPED = Pattern.compile("for \\(char c : \"([^\"]*)\"\\.toCharArray\\(\\)\\) x\\.write\\(c\\);");
    private static final Pattern CALLED = Pattern.compile("x\\.(\\w+)\\(([^)]*)\\);\\s*// (-?\\d+): .*");

    public static void main(String[] args) throws Exception {
        String page = Files.readString(Path.of("README.md"), StandardCharsets.UTF_8);
        examples(page);
        namesCalls(page);
        namesTests(page);
        due.end();
    }

    private static void examples(String page) throws Exception {
        Matcher block = Pattern.compile("(?s)```java\n(.*?)```").matcher(page);
        due.holds("there is an example", block.find());
        OppositeThreads x = null;
        for (String line : block.group(1).split("\n")) {
            Matcher typed = TYPED.matcher(line);
            if (MADE.matcher(line).matches()) {
                x = new OppositeThreads();
            } else if (typed.matches()) {
                Due.type(x, typed.group(1));
            } else if (!line.isBlank()) {
                call(x, line);
            }
        }
    }

    private static void call(OppositeThreads x, String line) throws Exception {
        Matcher called = CALLED.matcher(line);
        if (!called.matches()) {
            due.holds("this line of the example can be read: " + line, false);
            return;
        }
        String[] numbers = called.group(2).isEmpty() ? new String[0] : called.group(2).split(", ");
        Class<?>[] types = new Class<?>[numbers.length];
        Object[] arguments = new Object[numbers.length];
        for (int i = 0; i < numbers.length; i++) {
            types[i] = int.class;
            arguments[i] = Integer.valueOf(numbers[i]);
        }
        int got = (Integer) OppositeThreads.class.getMethod(called.group(1), types).invoke(x, arguments);
        due.is(called.group(1) + Arrays.toString(arguments), got, Integer.parseInt(called.group(3)));
    }

    private static void namesCalls(String page) {
        for (Method m : OppositeThreads.class.getDeclaredMethods()) {
            if (Modifier.isPublic(m.getModifiers())) {
                due.holds("the page names " + m.getName(), Pattern.compile("\\b" + m.getName() + "\\(").matcher(page).find());
            }
        }
    }

    private static void namesTests(String page) throws Exception {
        int tests = 0;
        try (DirectoryStream<Path> files = Files.newDirectoryStream(Path.of("src/test/java"), "*.java")) {
            for (Path file : files) {
                String name = file.getFileName().toString().replace(".java", "");
                due.holds("the page names " + name, page.contains("`" + name + "`"));
                tests += name.endsWith("Test") ? 1 : 0;
            }
        }
        Matcher row = Pattern.compile("(?m)^\\| `\\w+Test` \\|").matcher(page);
        due.is("tests that the page names", row.results().count(), tests);
    }
}
