import java.util.Random;

/** Texts of BY-LAWS, token by token: each goes on as the grammar lets it, but now and then with one that may be wrong. */
final class LawTexts {
    private static final String[] LINES = {"let", "limit", "fault"};
    private static final String[] WHO = {"driver", "walker", "both", "none"};
    private static final String[] PARTS = {"speed", "pace", "seen", "met", "looks", "kind", "floor", "width", "hidden",
        "limit", "year", "0", "1", "7", "60", "9999"};
    private static final String[] OPERATORS = {"and", "or", "<", "=", "+", "-", "*"};
    private static final String[] ODD = {"let", "limit", "fault", "when", "driver", "none", "12345", "1000", "00000", "0",
        "?", "A", "~", "abcdefghi", "abcdefgh", "zz", "not", "(", ")", ";", "<", "=", "+", "1"};

    private final Random random;
    private StringBuilder text;
    private int names;
    private int odd;

    LawTexts(Random random) {
        this.random = random;
    }

    /** A text of 1,000 signs at most; one of three has no token that is put in at random. */
    String next() {
        text = new StringBuilder();
        names = 0;
        odd = random.nextInt(3) * 25;
        int enough = random.nextInt(900);
        while (text.length() < enough) {
            line();
        }
        return text.length() > 1000 ? text.substring(0, 1000) : text.toString();
    }

    private void line() {
        String word = any(LINES);
        put(word);
        if (word.equals("let")) {
            // The same one again now and then, and a ninth.
            put(name(random.nextInt(12) == 0 ? Math.max(0, names - 1) : names));
        } else {
            put(word.equals("limit") ? Integer.toString(random.nextInt(40) == 0 ? 1000 : 1 + random.nextInt(999)) : any(WHO));
        }
        put(word.equals("let") ? "=" : "when");
        expression(0);
        put(";");
        names += word.equals("let") ? 1 : 0;
    }

    private void expression(int depth) {
        part(depth);
        boolean compared = false;
        for (int n = random.nextInt(5); n > 0; n--) {
            String operator = any(OPERATORS);
            boolean compares = operator.equals("<") || operator.equals("=");
            if (compared && compares && random.nextInt(40) > 0) {
                operator = "*";
            }
            compared = compares || compared && !operator.equals("and") && !operator.equals("or");
            put(operator);
            part(depth);
        }
    }

    private void part(int depth) {
        int kind = random.nextInt(depth < 3 ? 6 : depth == 3 ? 60 : 6);
        if (depth > 5 || kind > 1) {
            boolean named = names > 0 && random.nextInt(3) == 0;
            put(named ? name(random.nextInt(names + (random.nextInt(20) == 0 ? 1 : 0))) : any(PARTS));
        } else if (kind == 0) {
            put("not");
            part(depth + 1);
        } else {
            put("(");
            expression(depth + 1);
            put(")");
        }
    }

    private void put(String token) {
        if (odd > 0 && random.nextInt(1000) < odd) {
            append(any(ODD));
            if (random.nextBoolean()) {
                return;
            }
        }
        append(token);
    }

    /** Blanks are left out where the tokens stay apart, and sometimes where they don't. */
    private void append(String token) {
        char last = text.length() == 0 ? ';' : text.charAt(text.length() - 1);
        char first = token.charAt(0);
        boolean runTogether = isWord(last) && isWord(first) || Character.isDigit(last) && Character.isDigit(first);
        if (random.nextInt(3) > 0 || runTogether && (odd == 0 || random.nextInt(50) > 0)) {
            text.append(random.nextInt(5) == 0 ? '\n' : ' ');
        }
        text.append(token);
    }

    private static boolean isWord(char c) {
        return c >= 'a' && c <= 'z';
    }

    private static String name(int i) {
        return "n" + (char) ('a' + i % 26);
    }

    private String any(String[] of) {
        return of[random.nextInt(of.length)];
    }
}
