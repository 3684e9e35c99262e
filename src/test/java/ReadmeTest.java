import java.io.ByteArrayOutputStream;
import java.io.IOException;
import java.io.PrintStream;
import java.lang.reflect.Method;
import java.lang.reflect.Modifier;
import java.nio.charset.StandardCharsets;
import java.nio.file.Files;
import java.nio.file.Path;
import java.util.regex.Matcher;
import java.util.regex.Pattern;
import java.util.stream.Stream;

/** README.md shows the example as it is and what it prints, and names every call and every test. */
public final class ReadmeTest {
    private static final Path README = Path.of("README.md");
    private static final Path EXAMPLE = Path.of("src/example/java/Example.java");
    private static final Path TESTS = Path.of("src/test/java");

    private final Check check = new Check();
    private final String readme;

    private ReadmeTest(String readme) {
        this.readme = readme;
    }

    public static void main(String[] args) throws IOException {
        ReadmeTest test = new ReadmeTest(read(README));
        test.exampleIsShown();
        test.whatItPrintsIsShown();
        test.callsAreNamed();
        test.testsAreNamed();
        test.check.end("ReadmeTest");
    }

    private static String read(Path file) throws IOException {
        return Files.readString(file, StandardCharsets.UTF_8);
    }

    private void exampleIsShown() throws IOException {
        check.due("README.md shows " + EXAMPLE, block("java").equals(read(EXAMPLE)), true);
    }

    private String block(String kind) {
        String opening = "```" + kind + "\n";
        int from = readme.indexOf(opening) + opening.length();
        int to = readme.indexOf("```\n", from);
        return readme.contains(opening) && to >= 0 ? readme.substring(from, to) : "";
    }

    private void whatItPrintsIsShown() {
        PrintStream out = System.out;
        ByteArrayOutputStream printed = new ByteArrayOutputStream();
        System.setOut(new PrintStream(printed, true, StandardCharsets.UTF_8));
        try {
            Example.main(new String[0]);
        } finally {
            System.setOut(out);
        }
        String shown = block("text");
        check.due("README.md shows what the example prints", shown.equals(printed.toString(StandardCharsets.UTF_8)), true);
        check.due("the example prints something", shown.isEmpty(), false);
    }

    /** Each as `name(p, v)`, with as many names in it as the call has parameters. */
    private void callsAreNamed() {
        for (Method m : ModeDesk.class.getDeclaredMethods()) {
            if (Modifier.isPublic(m.getModifiers())) {
                Matcher named = Pattern.compile("\\| .*`" + m.getName() + "\\(([a-z, ]*)\\)`").matcher(readme);
                int parameters = !named.find() ? -1 : named.group(1).isEmpty() ? 0 : named.group(1).split(", ").length;
                check.due("parameters that README.md names of " + m.getName(), parameters, m.getParameterCount());
            }
        }
    }

    private void testsAreNamed() throws IOException {
        try (Stream<Path> files = Files.list(TESTS)) {
            for (Path file : files.toList()) {
                String name = file.getFileName().toString();
                if (name.endsWith("Test.java")) {
                    check.due("README.md names " + name, readme.contains("`" + name.replace(".java", "") + "`"), true);
                }
            }
        }
    }
}
