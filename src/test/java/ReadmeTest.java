import java.io.ByteArrayOutputStream;
import java.io.IOException;
import java.io.PrintStream;
import java.lang.reflect.Method;
import java.net.URL;
import java.net.URLClassLoader;
import java.nio.file.Files;
import java.nio.file.Path;
import java.util.stream.Stream;
import javax.tools.ToolProvider;

/** README.md: its example does what its comments say, and it names every method and every test. */
public final class ReadmeTest {
    private static final Path FILE = Path.of("README.md");

    public static void main(String[] args) throws Exception {
        String text = Files.readString(FILE);
        example(text);
        calls(text);
        tests(text);
        Check.end();
    }

    private static void example(String text) throws Exception {
        String opening = "```java\n";
        int from = text.indexOf(opening) + opening.length();
        String code = text.substring(from, text.indexOf("```", from));
        Path folder = Files.createTempDirectory("readme");
        try {
            Path file = folder.resolve("Example.java");
            Files.writeString(file, "public class Example { public static void main(String[] args) {\n" + code
                    + "System.out.print(\" \" + messages + \" \" + code); } }\n");
            int compiled = ToolProvider.getSystemJavaCompiler().run(null, null, null,
                    "-cp", System.getProperty("java.class.path"), "-d", folder.toString(), file.toString());
            Check.due("compiling the example", compiled, 0);
            Check.due("the example", compiled == 0 ? printedBy(folder) : "", "UCI+R+0'UCM+M+0' 1 0");
        } finally {
            remove(folder);
        }
    }

    private static String printedBy(Path folder) throws Exception {
        PrintStream usual = System.out;
        ByteArrayOutputStream printed = new ByteArrayOutputStream();
        try (URLClassLoader loader = new URLClassLoader(new URL[] {folder.toUri().toURL()})) {
            System.setOut(new PrintStream(printed, true));
            loader.loadClass("Example").getMethod("main", String[].class).invoke(null, (Object) new String[0]);
        } finally {
            System.setOut(usual);
        }
        return printed.toString();
    }

    private static void remove(Path folder) throws IOException {
        try (Stream<Path> files = Files.list(folder)) {
            for (Path each : files.toList()) {
                Files.delete(each);
            }
        }
        Files.delete(folder);
    }

    private static void calls(String text) {
        for (Method m : InterchangeDesk.class.getMethods()) {
            if (m.getDeclaringClass() == InterchangeDesk.class) {
                Check.due(m.getName(), text.contains("| `" + m.getName() + "("), true);
            }
        }
    }

    private static void tests(String text) throws IOException {
        try (Stream<Path> files = Files.list(Path.of("src/test/java"))) {
            for (Path each : files.toList()) {
                String name = each.getFileName().toString().replace(".java", "");
                Check.due(name, text.contains("`" + name + "`"), true);
            }
        }
    }
}
