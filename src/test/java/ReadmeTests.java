import java.io.IOException;
import java.lang.reflect.Method;
import java.nio.file.Files;
import java.nio.file.Path;
import java.util.regex.Matcher;
import java.util.regex.Pattern;

/** README.md's calls have the answers that it tells, it names every call of the face and every test. */
public final class ReadmeTests {
    private static final Due DUE = new Due();
    private static final Pattern EXAMPLE = Pattern.compile("(?s)```java\\n(.*?)```");
    private static final Pattern TOLD = Pattern.compile("for \\(char c : \"([^\"]*)\"\\.toCharArray\\(\\)\\) x\\.feed\\(c\\);");
    private static final Pattern ASKED = Pattern.compile("x\\.(\\w+\\([^)]*\\)); +// (-?\\d+|[A-Z]+)\\b.*");

    public static void main(String[] args) throws IOException {
        Path root = Path.of(System.getProperty("horn.root", "."));
        String text = Files.readString(root.resolve("README.md"));
        examples(text);
        calls(text);
        tests(root, text);
        DUE.end();
    }

    private static void examples(String text) {
        Matcher m = EXAMPLE.matcher(text);
        int found = 0;
        while (m.find()) {
            found++;
            example(m.group(1));
        }
        DUE.is("README: an example", found > 0 ? 1 : 0, 1);
    }

    private static void example(String code) {
        Run run = null;
        for (String line : code.split("\n")) {
            Matcher told = TOLD.matcher(line);
            Matcher asked = ASKED.matcher(line);
            if (line.equals("HornTests x = new HornTests();")) {
                run = new Run(DUE, "README");
            } else if (run != null && told.matches()) {
                run.write(told.group(1));
            } else if (run != null && asked.matches()) {
                run.is(asked.group(1) + "=" + asked.group(2));
            } else {
                DUE.is("README: a line that is no call: " + line, 1, 0);
            }
        }
    }

    private static void calls(String text) {
        for (Method m : HornTests.class.getDeclaredMethods()) {
            if (java.lang.reflect.Modifier.isPublic(m.getModifiers())) {
                int numbers = m.getParameterCount();
                String inside = numbers == 0 ? "" : "\\w+" + ", \\w+".repeat(numbers - 1);
                boolean named = Pattern.compile("`" + m.getName() + "\\(" + inside + "\\)`").matcher(text).find();
                DUE.is("README: names " + m.getName(), named ? 1 : 0, 1);
            }
        }
    }

    private static void tests(Path root, String text) throws IOException {
        try (var files = Files.list(root.resolve("src/test/java"))) {
            for (Path file : files.toList()) {
                String name = file.getFileName().toString().replace(".java", "");
                DUE.is("README: names " + name, text.contains("`" + name + "`") ? 1 : 0, 1);
            }
        }
        DUE.is("README: how to run the tests", text.contains(".ci/run") ? 1 : 0, 1);
    }
}
