import java.io.IOException;
import java.lang.reflect.InvocationTargetException;
import java.lang.reflect.Method;
import java.lang.reflect.Modifier;
import java.net.URL;
import java.net.URLClassLoader;
import java.nio.file.Files;
import java.nio.file.Path;
import java.util.Comparator;
import java.util.List;
import java.util.regex.Matcher;
import java.util.regex.Pattern;
import java.util.stream.Stream;
import javax.tools.ToolProvider;

/** README.md's example: it is compiled and run, and each call answers what README.md says behind it. */
public final class ReadmeTest {
    private static final Checks CHECKS = new Checks();
    private static final Pattern BLOCK = Pattern.compile("(?s)```java\n(.*?)```");
    private static final Pattern CALL =
        Pattern.compile("(?:int (\\w+) = )?(s\\.\\w+\\(.*\\));\\s*// (true|false|-?\\d+)(?:: .*)?");

    /** The example calls it for each answer. */
    public static void answered(String call, Object got, Object told) {
        CHECKS.due("README.md: " + call + " answers " + got + ", told is " + told, got.equals(told), true);
    }

    public static void main(String[] args) throws IOException, ReflectiveOperationException {
        Matcher block = BLOCK.matcher(Files.readString(Path.of("README.md")));
        CHECKS.due("README.md has an example", block.find(), true);
        String example = block.group(1);
        for (Method method : WhoseStreet.class.getDeclaredMethods()) {
            if (Modifier.isPublic(method.getModifiers())) {
                CHECKS.due(method.getName() + " stands in README.md", example.contains("s." + method.getName() + "("), true);
            }
        }
        Path dir = Files.createTempDirectory("readme");
        try {
            run(dir, source(example));
        } finally {
            remove(dir);
        }
        CHECKS.end();
    }

    private static String source(String example) {
        StringBuilder body = new StringBuilder();
        for (String line : example.lines().toList()) {
            Matcher call = CALL.matcher(line);
            if (!call.matches()) {
                boolean known = line.isBlank() || line.startsWith("//") || line.startsWith("WhoseStreet s = ");
                CHECKS.due("README.md tells no answer: " + line, known, true);
                body.append(line).append('\n');
                continue;
            }
            String asked = call.group(2);
            if (call.group(1) != null) {
                body.append("int ").append(call.group(1)).append(" = ").append(asked).append(";\n");
                asked = call.group(1);
            }
            body.append("ReadmeTest.answered(\"").append(call.group(2)).append("\", ").append(asked).append(", ")
                .append(call.group(3)).append(");\n");
        }
        return "public final class Example { public static void main(String[] args) {\n" + body + "} }\n";
    }

    private static void run(Path dir, String source) throws IOException, ReflectiveOperationException {
        Path file = Files.writeString(dir.resolve("Example.java"), source);
        int compiled = ToolProvider.getSystemJavaCompiler().run(null, null, null, "-cp",
            System.getProperty("java.class.path"), "-d", dir.toString(), file.toString());
        CHECKS.due("README.md's example compiles", compiled, 0);
        if (compiled != 0) {
            return;
        }
        try (URLClassLoader loader = new URLClassLoader(new URL[] {dir.toUri().toURL()})) {
            loader.loadClass("Example").getMethod("main", String[].class).invoke(null, (Object) new String[0]);
        } catch (InvocationTargetException e) {
            CHECKS.due("README.md's example threw " + e.getCause(), true, false);
        }
    }

    private static void remove(Path dir) throws IOException {
        try (Stream<Path> files = Files.walk(dir)) {
            List<Path> deepestFirst = files.sorted(Comparator.reverseOrder()).toList();
            for (Path file : deepestFirst) {
                Files.delete(file);
            }
        }
    }
}
