import java.net.URL;
import java.net.URLClassLoader;
import java.nio.file.Files;
import java.nio.file.Path;
import java.util.function.Supplier;
import java.util.regex.Matcher;
import java.util.regex.Pattern;
import javax.tools.ToolProvider;

/** What README.md tells its reader is what the class answers: its example is compiled and run, its kinds are read. */
public final class ReadmeTest {
    private static final Pattern EXAMPLE = Pattern.compile("```java\\n(.*?)```", Pattern.DOTALL);
    // A line of the example tells its answer between // and the colon.
    private static final Pattern TOLD = Pattern.compile("(?m)^\\w+ (\\w+) = reader\\.\\w+\\(.*\\);\\s*// ([^:\\n]+):");
    private static final Pattern KIND = Pattern.compile("\\| (\\d+) \\| [^|\\n]*?`([^`]+)`");

    private static final Probe probe = new Probe();

    public static void main(String[] args) throws Exception {
        String readme = Files.readString(Path.of("README.md"));
        example(readme);
        kinds(readme);
        probe.finish();
    }

    private static void example(String readme) throws Exception {
        Matcher block = EXAMPLE.matcher(readme);
        String code = block.find() ? block.group(1) : "";
        StringBuilder asked = new StringBuilder("\"\"");
        StringBuilder due = new StringBuilder();
        Matcher told = TOLD.matcher(code);
        int lines = 0;
        while (told.find()) {
            String name = told.group(1);
            asked.append(" + \"").append(name).append("=\" + ").append(name).append(" + \" \"");
            due.append(name).append('=').append(told.group(2)).append(' ');
            lines++;
        }
        int answers = lines;
        probe.due("calls of the example, each with its answer", code.split("= reader\\.", -1).length - 1, () -> answers);
        probe.due("the example has calls", true, () -> answers > 0);
        Object got = run("public final class Example implements java.util.function.Supplier<String> {\n"
                + "public String get() {\n" + code + "return " + asked + ";\n}\n}\n");
        probe.due("the example", due, () -> got);
    }

    private static Object run(String program) throws Exception {
        Path place = Files.createTempDirectory("readme");
        Path source = Files.writeString(place.resolve("Example.java"), program);
        String classes = System.getProperty("java.class.path");
        ToolProvider.getSystemJavaCompiler().run(null, null, null, "-cp", classes, "-d", place.toString(), source.toString());
        try (URLClassLoader loader = new URLClassLoader(new URL[] {place.toUri().toURL()})) {
            return ((Supplier<?>) loader.loadClass("Example").getDeclaredConstructor().newInstance()).get();
        } finally {
            Files.deleteIfExists(place.resolve("Example.class"));
            Files.delete(source);
            Files.delete(place);
        }
    }

    private static void kinds(String readme) {
        Matcher kind = KIND.matcher(readme);
        int found = 0;
        while (kind.find()) {
            found++;
            String text = kind.group(2).replace("value", "1");
            probe.due("kind of " + text, kind.group(1), () -> Probe.read(text).node(0, 0));
        }
        int kinds = found;
        probe.due("all kinds are told", 13, () -> kinds);
    }
}
