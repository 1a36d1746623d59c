import java.io.IOException;
import java.lang.reflect.Method;
import java.lang.reflect.Modifier;
import java.net.URL;
import java.net.URLClassLoader;
import java.nio.file.Files;
import java.nio.file.Path;
import java.util.regex.Matcher;
import java.util.regex.Pattern;
import javax.tools.ToolProvider;

/** README.md: its example is compiled and run, and each call must answer what the comment behind it says. */
public final class ReadmeTest {
    private static final Answers ANSWERS = new Answers();
    private static final Pattern CALL = Pattern.compile("(filter\\..*\\)); *// ([^:]+)(?::.*)?");

    public static void main(String[] args) throws Exception {
        theExampleAnswersAsItSays();
        everyCallIsTold();
        everyTestIsTold();
        ANSWERS.finish();
    }

    /** For the class that is made of the example. */
    public static void due(String call, long want, long got) {
        ANSWERS.due(call, want, got);
    }

    public static void due(String call, boolean want, boolean got) {
        ANSWERS.due(call, want, got);
    }

    private static void theExampleAnswersAsItSays() throws Exception {
        Path place = Files.createTempDirectory("readme");
        Path source = place.resolve("Example.java");
        Files.writeString(source, "public class Example { public static void main(String[] args) {\n"
            + example() + "} }\n");
        String classes = System.getProperty("java.class.path");
        int refused = ToolProvider.getSystemJavaCompiler().run(null, null, null,
            "-cp", classes, "-d", place.toString(), source.toString());
        ANSWERS.due("compiling the example", 0, refused);
        if (refused == 0) {
            try (URLClassLoader loader = new URLClassLoader(new URL[] {place.toUri().toURL()})) {
                loader.loadClass("Example").getMethod("main", String[].class).invoke(null, (Object) new String[0]);
            }
        }
        for (String file : new String[] {"Example.java", "Example.class"}) {
            Files.deleteIfExists(place.resolve(file));
        }
        Files.delete(place);
    }

    /** The example with each call turned into a comparison of its answer. */
    private static String example() throws IOException {
        StringBuilder code = new StringBuilder();
        boolean inside = false;
        int calls = 0;
        for (String line : Files.readAllLines(Path.of("README.md"))) {
            Matcher call = CALL.matcher(line);
            if (line.startsWith("```")) {
                inside = line.equals("```java");
            } else if (inside && line.startsWith("filter.")) {
                ANSWERS.due("an answer stands behind " + line, true, call.matches());
                if (call.matches()) {
                    calls++;
                    code.append("ReadmeTest.due(\"").append(call.group(1)).append("\", ")
                        .append(call.group(2)).append(", ").append(call.group(1)).append(");\n");
                }
            } else if (inside) {
                code.append(line).append('\n');
            }
        }
        ANSWERS.due("the example has calls", true, calls > 0);
        return code.toString();
    }

    private static void everyCallIsTold() throws IOException {
        String text = Files.readString(Path.of("README.md"));
        for (Method method : CallFilter.class.getDeclaredMethods()) {
            if (Modifier.isPublic(method.getModifiers())) {
                ANSWERS.due(method.getName() + " is told", true, text.contains("`" + method.getName() + "("));
            }
        }
    }

    private static void everyTestIsTold() throws IOException {
        String text = Files.readString(Path.of("README.md"));
        try (var files = Files.list(Path.of("src/test/java"))) {
            for (Path file : files.toList()) {
                String name = file.getFileName().toString().replace(".java", "");
                if (name.endsWith("Test")) {
                    ANSWERS.due(name + " is told", true, text.contains("| `" + name + "` |"));
                }
            }
        }
    }
}
