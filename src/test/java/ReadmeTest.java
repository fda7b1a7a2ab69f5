import java.io.ByteArrayOutputStream;
import java.io.File;
import java.io.IOException;
import java.io.PrintStream;
import java.lang.reflect.Method;
import java.lang.reflect.Modifier;
import java.net.URL;
import java.net.URLClassLoader;
import java.nio.charset.StandardCharsets;
import java.nio.file.Files;
import java.nio.file.Path;
import java.util.regex.Matcher;
import java.util.regex.Pattern;
import javax.tools.ToolProvider;

/** README.md is true: its example does what it says, and it names every call and every test. */
public final class ReadmeTest {

    private static final Path README = Path.of("README.md");
    private static final Path TESTS = Path.of("src", "test", "java");
    private static final Path OUT = Path.of("build", "readme");

    private final Checks checks = new Checks("ReadmeTest");
    private final String readme;

    private ReadmeTest(String readme) {
        this.readme = readme;
    }

    public static void main(String[] args) throws IOException, ReflectiveOperationException {
        ReadmeTest test = new ReadmeTest(Files.readString(README));
        test.checkExample();
        test.checkCalls();
        test.checkTests();
        test.checks.end();
    }

    private void checkExample() throws IOException, ReflectiveOperationException {
        Path source = OUT.resolve("Example.java");
        Files.createDirectories(OUT);
        Files.writeString(source, block("java"));
        int errors = ToolProvider.getSystemJavaCompiler().run(null, System.out, System.out,
                "-Xlint:all", "-Werror", "-cp", System.getProperty("java.class.path"),
                "-d", OUT.toString(), source.toString());
        checks.due("the example compiles", errors, 0);
        if (errors == 0) {
            checks.due("the example prints", printedByExample(), block("text"));
        }
    }

    /** The lines of the first block of the language, each with its end. */
    private String block(String language) {
        Matcher block = Pattern.compile("^```" + language + "\n(.*?)^```$", Pattern.MULTILINE | Pattern.DOTALL)
                .matcher(readme);
        boolean found = block.find();
        checks.due("there is a block of " + language, found, true);
        return found ? block.group(1) : "";
    }

    private static String printedByExample() throws IOException, ReflectiveOperationException {
        PrintStream usual = System.out;
        ByteArrayOutputStream printed = new ByteArrayOutputStream();
        try (URLClassLoader loader = new URLClassLoader(new URL[] {OUT.toUri().toURL()})) {
            System.setOut(new PrintStream(printed, true, StandardCharsets.UTF_8));
            loader.loadClass("Example").getMethod("main", String[].class).invoke(null, (Object) new String[0]);
        } finally {
            System.setOut(usual);
        }
        return printed.toString(StandardCharsets.UTF_8).replace(System.lineSeparator(), "\n");
    }

    private void checkCalls() {
        for (Method method : DoorAcademy.class.getDeclaredMethods()) {
            if (Modifier.isPublic(method.getModifiers())) {
                String call = "`" + method.getName() + "\\("
                        + "\\w+, ".repeat(Math.max(0, method.getParameterCount() - 1))
                        + (method.getParameterCount() > 0 ? "\\w+" : "") + "\\)`";
                checks.due("names " + call, Pattern.compile(call).matcher(readme).find(), true);
            }
        }
    }

    private void checkTests() {
        checks.due("names .ci/run", readme.contains("    .ci/run\n"), true);
        File[] tests = TESTS.toFile().listFiles((directory, name) -> name.endsWith("Test.java"));
        checks.due("there are tests", tests != null && tests.length > 0, true);
        for (File test : tests == null ? new File[0] : tests) {
            String name = test.getName().replace(".java", "");
            checks.due("names " + name, readme.contains("- `" + name + "`: "), true);
        }
    }
}
