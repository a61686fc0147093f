import java.io.IOException;
import java.nio.file.Files;
import java.nio.file.Path;
import java.lang.reflect.Constructor;
import java.lang.reflect.Field;
import java.lang.reflect.Method;
import java.lang.reflect.Modifier;
import java.util.List;
import java.util.Set;
import java.util.TreeSet;
import java.util.regex.Matcher;
import java.util.regex.Pattern;

/** Those rules of LANGUAGE.md that can be looked at from outside: the face, the size, and words that may not stand. */
public final class LanguageTest {
    private static final Checks CHECKS = new Checks();
    private static final Path SOURCE = Path.of("src/main/java/WhoseStreet.java");
    private static final String[] RULED_OUT = {"->", "::", "\\btry\\b", "\\bcatch\\b", "\\bfinally\\b", "\\bsynchronized\\b",
        "\\bassert\\b", "\\bdouble\\b", "\\bfloat\\b", "Exact\\(", "\" *\\+", "\\+ *\"", "System\\.(?!arraycopy)",
        "Math\\.(?!max|min|abs|floorDiv|floorMod)", "Arrays\\.(?!fill|copyOf|copyOfRange)", "\\bstatic \\{",
        "hashCode|toString|getClass|equals\\(", "@Override", "protected ", "\\bwhile \\(true"};

    public static void main(String[] args) throws IOException {
        String text = Files.readString(SOURCE);
        words(text);
        face();
        sizes(text);
        CHECKS.end();
    }

    private static void words(String text) {
        String code = text.replaceAll("(?s)/\\*.*?\\*/", "").replaceAll("//[^\n]*", "");
        for (String word : RULED_OUT) {
            CHECKS.due("ruled out: " + word, Pattern.compile(word).matcher(code).find(), false);
        }
        Matcher imports = Pattern.compile("import ([\\w.]+);").matcher(code);
        while (imports.find()) {
            boolean may = Set.of("java.util.Arrays", "java.util.NoSuchElementException").contains(imports.group(1));
            CHECKS.due("import " + imports.group(1), may, true);
        }
        CHECKS.due("signs beyond 127", text.chars().anyMatch(c -> c > 127), false);
    }

    private static void face() {
        Set<String> names = new TreeSet<>();
        for (Method m : WhoseStreet.class.getDeclaredMethods()) {
            if (Modifier.isPublic(m.getModifiers())) {
                names.add(m.getName());
            }
        }
        for (Class<?> inside : WhoseStreet.class.getDeclaredClasses()) {
            CHECKS.due(inside + " is static", Modifier.isStatic(inside.getModifiers()), true);
            CHECKS.due(inside + " is not public", Modifier.isPublic(inside.getModifiers()), false);
            for (Method m : inside.getDeclaredMethods()) {
                CHECKS.due(m + " bears the name of a public one", names.contains(m.getName()), false);
            }
            fields(inside);
        }
        for (Method m : WhoseStreet.class.getDeclaredMethods()) {
            boolean open = Modifier.isPublic(m.getModifiers());
            CHECKS.due(m + " is public or private", open || Modifier.isPrivate(m.getModifiers()), true);
            CHECKS.due(m + " bears the name of a public one", !open && names.contains(m.getName()), false);
        }
        for (Constructor<?> c : WhoseStreet.class.getDeclaredConstructors()) {
            CHECKS.due("constructor takes", c.getParameterCount(), 0);
        }
        CHECKS.due("names of the face", names.size(), 27);
        CHECKS.due("classes", WhoseStreet.class.getDeclaredClasses().length <= 12, true);
        fields(WhoseStreet.class);
    }

    private static void fields(Class<?> of) {
        int own = 0;
        for (Field f : of.getDeclaredFields()) {
            boolean constant = Modifier.isStatic(f.getModifiers());
            CHECKS.due(f + " is final if static", !constant || Modifier.isFinal(f.getModifiers()), true);
            own += constant ? 0 : 1;
        }
        CHECKS.due("fields of " + of, own <= 20, true);
    }

    private static void sizes(String text) {
        List<String> lines = text.lines().toList();
        int start = -1;
        String head = "";
        Pattern method = Pattern.compile("^( {4}| {8})(?!.*\\b(class|new|return)\\b)\\S.*\\((.*)\\).* \\{$");
        for (int i = 0; i < lines.size(); i++) {
            Matcher m = method.matcher(lines.get(i));
            if (start < 0 && m.matches() && !lines.get(i).matches(" +(if|for|while|switch|\\}).*")) {
                start = i;
                head = m.group(1);
                CHECKS.due("parameters in " + lines.get(i), m.group(3).split(",").length <= 7, true);
            } else if (start >= 0 && lines.get(i).equals(head + "}")) {
                CHECKS.due("lines of " + lines.get(start), i - start < 60, true);
                start = -1;
            }
        }
    }
}
