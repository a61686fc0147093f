import java.nio.charset.StandardCharsets;
import java.util.NoSuchElementException;

/** What the tests share: they print each answer that is not due, and exit with 1 if there was one. */
final class Checks {
    static final int THROWN = Integer.MIN_VALUE + 7;

    private int looked;
    private int wrong;

    void due(String what, long got, long want) {
        looked++;
        if (got != want) {
            wrong++;
            if (wrong <= 40) {
                System.out.println(what + " answered " + got + ", due is " + want);
            }
        }
    }

    void due(String what, boolean got, boolean want) {
        due(what, got ? 1 : 0, want ? 1 : 0);
    }

    int looked() {
        return looked;
    }

    int wrong() {
        return wrong;
    }

    void end() {
        System.out.println(looked + " answers looked at, " + wrong + " not as due");
        if (wrong != 0 || looked == 0) {
            System.exit(1);
        }
    }

    /** Where one of a meeting is; THROWN for the exception that the document names. */
    static int at(WhoseStreet s, int meeting, int who, int t) {
        try {
            return s.at(meeting, who, t);
        } catch (NoSuchElementException e) {
            return THROWN;
        }
    }

    /** Feeds a text; what feed answered last. */
    static int feed(WhoseStreet s, String text) {
        byte[] bytes = text.getBytes(StandardCharsets.ISO_8859_1);
        int size = s.count(6);
        for (int i = 0; i < bytes.length; i += 24) {
            size = s.feed(pack(bytes, i), pack(bytes, i + 8), pack(bytes, i + 16));
        }
        return size;
    }

    static int law(WhoseStreet s, String text, int year) {
        feed(s, text);
        return s.law(year);
    }

    private static long pack(byte[] bytes, int from) {
        long packed = 0;
        for (int i = from; i < from + 8; i++) {
            packed = packed << 8 | (i < bytes.length ? bytes[i] & 255 : 0);
        }
        return packed;
    }
}
