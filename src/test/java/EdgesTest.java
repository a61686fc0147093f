import java.io.IOException;
import java.lang.reflect.InvocationTargetException;
import java.lang.reflect.Method;
import java.nio.file.Files;
import java.nio.file.Path;
import java.util.ArrayList;
import java.util.Comparator;
import java.util.List;

/**
 * The document sentence by sentence: each one that names a boundary case (too small, too large, empty, full, a
 * wrap-around, a refused call) has a test of its own, which bears it as its Sentence. The sentences are taken out of
 * ../shared/DOC.md one by one: one that does not stand there is a fault, and so is one that is left over.
 */
public final class EdgesTest {
    private static final Path DOCUMENT = Path.of("../shared/DOC.md");
    private static final List<Class<?>> TESTS = List.of(MeetingEdges.class, LawEdges.class, CustomEdges.class,
        CornerEdges.class, BillEdges.class, StreetEdges.class);
    /** Sentences without a boundary case: what they tell has no two sides that a call could show. */
    private static final String[] WITHOUT_EDGE = {"What they are there for is the place x = 0, y = 0."};

    public static void main(String[] args) throws IOException, IllegalAccessException {
        List<String> sentences = new ArrayList<>(List.of(WITHOUT_EDGE));
        for (Class<?> tests : TESTS) {
            for (Method test : tests.getDeclaredMethods()) {
                Sentence sentence = test.getAnnotation(Sentence.class);
                if (sentence != null) {
                    run(test, sentence.value());
                    sentences.add(sentence.value());
                }
            }
        }
        compareWithDocument(sentences);
        Edges.CHECKS.end();
    }

    private static void run(Method test, String sentence) throws IllegalAccessException {
        int before = Edges.CHECKS.looked();
        int wrong = Edges.CHECKS.wrong();
        try {
            test.invoke(null);
        } catch (InvocationTargetException e) {
            Edges.CHECKS.due(test.getName() + " threw " + e.getCause(), true, false);
        }
        Edges.CHECKS.due(test.getName() + " looks at something", Edges.CHECKS.looked() > before, true);
        if (Edges.CHECKS.wrong() > wrong) {
            System.out.println("    " + test.getName() + " holds to: " + sentence);
        }
    }

    private static void compareWithDocument(List<String> sentences) throws IOException {
        String text = promised(Files.readString(DOCUMENT));
        // The longest first: a short one could stand within a longer one too.
        sentences.sort(Comparator.comparing(String::length).reversed());
        for (String sentence : sentences) {
            int at = text.indexOf(sentence);
            Edges.CHECKS.due("the document does not say: " + sentence, at >= 0, true);
            if (at >= 0) {
                text = text.substring(0, at) + "|" + text.substring(at + sentence.length());
            }
        }
        String left = text.replaceAll("[|\\s]+", " ").trim();
        Edges.CHECKS.due("no test holds to: " + left, left.isEmpty(), true);
    }

    /** What binds in the document, without headings, the marks of its parts, and the face. */
    private static String promised(String document) {
        String calls = document.substring(document.indexOf("An object is used"), document.indexOf("## The public face"));
        String rest = document.substring(document.indexOf("## Terms"), document.indexOf("## Not promised"));
        return (calls + rest).replaceAll("(?m)^## .*$", "|").replaceAll("(?m)^```.*$", "|")
            .replaceAll("==== \\d\\.", "|").replaceAll("(?m)^`[^`]*`:", "|").replaceAll("\\s+", " ");
    }
}
