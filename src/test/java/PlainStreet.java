import java.util.ArrayList;
import java.util.Arrays;
import java.util.HashMap;
import java.util.List;
import java.util.Map;
import java.util.TreeMap;

/**
 * The document once more, written in another way and as plainly as can be, to compare answers with: everything is
 * worked anew in each call, from what was told. It takes only calls whose numbers are as told.
 */
final class PlainStreet {
    private static final String RESERVED = " let limit fault when driver walker both none and or not speed pace seen met"
        + " looks kind floor width hidden year ";

    static final class Case {
        int x, speed, reacts, y, pace, kind, sx, sy, floor;
        int width = 50;
        boolean looks;
        boolean parked;
    }

    static final class Trace {
        int[] xs = new int[61];
        int[] ys = new int[61];
        int end = 60;
        int met = -1;
        int first = -1;
        int stopped = -1;
        int metSpeed = -1;
    }

    interface Node {
        int worth(Map<String, Integer> facts);
    }

    static final class Line {
        String word;
        int value;
        Node e;
    }

    static final class ByLaw {
        int told, from, number;
        List<Line> lines;
    }

    static final class Ruling {
        int year;
        Case on;
        boolean driver;
    }

    int now;
    int view = -1;
    final List<Case> cases = new ArrayList<>();
    final List<ByLaw> laws = new ArrayList<>();
    final List<Ruling> rulings = new ArrayList<>();
    final int[][] streams = new int[4][];
    final boolean[][] together = new boolean[4][4];
    final List<int[]> classes = new ArrayList<>();
    final Map<Integer, long[]> counts = new HashMap<>();
    final int[][] streets = new int[8][];
    final List<int[]> trips = new ArrayList<>();

    int view() {
        return view < 0 ? now : view;
    }

    static Trace trace(Case c, int speed) {
        Trace r = new Trace();
        int brake = c.floor == 0 ? 60 : c.floor == 1 ? 35 : 10;
        int[] went = new int[61];
        r.xs[0] = c.x;
        r.ys[0] = c.y;
        for (int t = 0; t <= 60; t++) {
            int x = r.xs[t];
            int y = r.ys[t];
            if (t > 0 && x >= 0 && x <= 40 && Math.abs(y) <= 8 && went[t - 1] > 0) {
                r.met = t;
                r.end = t;
                r.metSpeed = went[t - 1];
                break;
            }
            boolean hidden = c.parked && x < c.sx && y < c.sy && (long) c.sx * y + (long) c.sy * x <= (long) x * y;
            boolean sees = x < 0 && y < 0 && !hidden;
            if (sees && r.first < 0) {
                r.first = t;
            }
            if (t == 60) {
                break;
            }
            int before = t == 0 ? speed : went[t - 1];
            boolean braking = r.first >= 0 && t >= r.first + c.reacts;
            went[t] = braking ? Math.max(0, before - brake) : before;
            if (went[t] == 0 && r.stopped < 0) {
                r.stopped = t;
            }
            boolean stays = c.looks && sees && before > 0
                && Math.ceil(-x / (double) before) <= Math.ceil(-y / (double) c.pace);
            r.xs[t + 1] = x + went[t];
            r.ys[t + 1] = stays ? y : y + c.pace;
        }
        return r;
    }

    static int safe(Case c) {
        int best = 0;
        for (int speed = 1; speed <= c.speed; speed++) {
            if (trace(c, speed).met < 0) {
                best = speed;
            }
        }
        return best;
    }

    static int seen(Case c) {
        Trace r = trace(c, c.speed);
        return r.first < 0 ? 0 : r.end - r.first;
    }

    static boolean sign(Case c, int sign) {
        switch (sign) {
            case 0: return c.speed > 100;
            case 1: return c.kind == 1;
            case 2: return c.kind == 2;
            case 3: return seen(c) >= 2;
            case 4: return c.looks;
            case 5: return c.parked;
            case 6: return c.floor > 0;
            default: return c.width < 10;
        }
    }

    static int signs(Case c) {
        int bits = 0;
        for (int i = 0; i < 8; i++) {
            bits += sign(c, i) ? 1 << i : 0;
        }
        return bits;
    }

    int look(int meeting, int what) {
        Case c = cases.get(meeting);
        Trace r = trace(c, c.speed);
        switch (what) {
            case 0: return r.met;
            case 1: return r.first;
            case 2: return safe(c);
            case 3: return seen(c);
            case 4: return r.metSpeed;
            case 5: return signs(c);
            default: return r.stopped;
        }
    }

    // ---- by-laws: tokens first, then a reader for each rule of the grammar that throws at the first fault

    static final class Fault extends RuntimeException {
        private static final long serialVersionUID = 1;
        final int number;

        Fault(int kind, int place) {
            number = kind + 16 * place;
        }
    }

    static final class Parser {
        final List<String> texts = new ArrayList<>();
        final List<Integer> places = new ArrayList<>();
        final Map<String, Node> names = new HashMap<>();
        int at;

        Parser(String text) {
            int i = 0;
            while (i < text.length()) {
                char c = text.charAt(i);
                int k = i + 1;
                if (c == ' ' || c == '\n') {
                    i++;
                    continue;
                }
                String set = c >= 'a' && c <= 'z' ? "abcdefghijklmnopqrstuvwxyz" : c >= '0' && c <= '9' ? "0123456789" : "";
                while (k < text.length() && set.indexOf(text.charAt(k)) >= 0) {
                    k++;
                }
                String token = text.substring(i, k);
                boolean good = token.matches("[a-z]{1,8}|[0-9]{1,4}|[()<=+*;-]");
                texts.add(good ? token : "?");
                places.add(i);
                i = k;
            }
            texts.add("");
            places.add(text.length());
        }

        String token() {
            return texts.get(at);
        }

        Fault fault(int kind) {
            return new Fault(kind, places.get(at));
        }

        boolean isName() {
            return token().matches("[a-z]+") && !RESERVED.contains(" " + token() + " ");
        }

        boolean isNumber() {
            return token().matches("[0-9]+");
        }

        void expect(String text) {
            if (!token().equals(text)) {
                throw fault(1);
            }
            at++;
        }

        List<Line> lines() {
            List<Line> lines = new ArrayList<>();
            while (!token().isEmpty()) {
                if (!token().matches("let|limit|fault")) {
                    throw fault(1);
                }
                if (lines.size() == 20) {
                    throw fault(5);
                }
                lines.add(line());
            }
            return lines;
        }

        Line line() {
            Line line = new Line();
            line.word = token();
            at++;
            String name = token();
            if (line.word.equals("let")) {
                if (!isName()) {
                    throw fault(1);
                }
                if (names.containsKey(name)) {
                    throw fault(3);
                }
                if (names.size() == 8) {
                    throw fault(5);
                }
            } else if (line.word.equals("limit")) {
                if (!isNumber()) {
                    throw fault(1);
                }
                line.value = Integer.parseInt(name);
                if (line.value < 1 || line.value > 999) {
                    throw fault(4);
                }
            } else {
                line.value = Arrays.asList("none", "driver", "walker", "both").indexOf(name);
                if (line.value < 0) {
                    throw fault(1);
                }
            }
            at++;
            expect(line.word.equals("let") ? "=" : "when");
            line.e = expression(0);
            expect(";");
            if (line.word.equals("let")) {
                names.put(name, line.e);
            }
            return line;
        }

        Node expression(int depth) {
            Node left = test(depth);
            while (token().equals("and") || token().equals("or")) {
                boolean and = token().equals("and");
                at++;
                Node a = left;
                Node b = test(depth);
                left = f -> {
                    boolean p = a.worth(f) != 0;
                    boolean q = b.worth(f) != 0;
                    return (and ? p && q : p || q) ? 1 : 0;
                };
            }
            return left;
        }

        Node test(int depth) {
            Node a = sum(depth);
            if (token().equals("<") || token().equals("=")) {
                boolean less = token().equals("<");
                at++;
                Node b = sum(depth);
                return f -> (less ? a.worth(f) < b.worth(f) : a.worth(f) == b.worth(f)) ? 1 : 0;
            }
            return a;
        }

        Node sum(int depth) {
            Node left = term(depth);
            while (token().equals("+") || token().equals("-")) {
                int by = token().equals("+") ? 1 : -1;
                at++;
                Node a = left;
                Node b = term(depth);
                left = f -> a.worth(f) + by * b.worth(f);
            }
            return left;
        }

        Node term(int depth) {
            Node left = part(depth);
            while (token().equals("*")) {
                at++;
                Node a = left;
                Node b = part(depth);
                left = f -> a.worth(f) * b.worth(f);
            }
            return left;
        }

        Node part(int depth) {
            String token = token();
            boolean word = token.matches("speed|pace|seen|met|looks|kind|floor|width|hidden|limit|year");
            if (!word && !isName() && !isNumber() && !token.equals("not") && !token.equals("(")) {
                throw fault(1);
            }
            if (isName() && !names.containsKey(token)) {
                throw fault(2);
            }
            if (depth >= 4) {
                throw fault(5);
            }
            boolean number = isNumber();
            at++;
            if (token.equals("not")) {
                Node a = part(depth + 1);
                return f -> a.worth(f) == 0 ? 1 : 0;
            }
            if (token.equals("(")) {
                Node a = expression(depth + 1);
                expect(")");
                return a;
            }
            if (number) {
                int n = Integer.parseInt(token);
                return f -> n;
            }
            if (word) {
                return f -> f.get(token);
            }
            Node named = names.get(token);
            return f -> {
                Map<String, Integer> without = new HashMap<>(f);
                without.put("limit", 0);
                return named.worth(without);
            };
        }
    }

    int law(String text, int year) {
        if (laws.size() == 16) {
            return -1;
        }
        ByLaw law = new ByLaw();
        try {
            law.lines = new Parser(text).lines();
        } catch (Fault fault) {
            return fault.number;
        }
        law.told = now;
        law.from = year;
        law.number = laws.size();
        laws.add(law);
        return 0;
    }

    int whose(int meeting, int year, int what) {
        Case c = cases.get(meeting);
        TreeMap<Integer, ByLaw> byYear = new TreeMap<>();
        for (ByLaw law : laws) {
            if (law.told <= view()) {
                byYear.put(law.from, law);
            }
        }
        Map.Entry<Integer, ByLaw> entry = byYear.floorEntry(year);
        if (entry == null) {
            return what == 1 || what == 3 ? -1 : 0;
        }
        List<Line> lines = entry.getValue().lines;
        Map<String, Integer> f = facts(c, year);
        int limit = 0;
        for (int i = lines.size() - 1; i >= 0; i--) {
            if (lines.get(i).word.equals("limit") && lines.get(i).e.worth(f) != 0) {
                limit = lines.get(i).value;
            }
        }
        f.put("limit", limit);
        int who = 0;
        int why = -1;
        for (int i = lines.size() - 1; i >= 0; i--) {
            if (lines.get(i).word.equals("fault") && lines.get(i).e.worth(f) != 0) {
                who = lines.get(i).value;
                why = i;
            }
        }
        return what == 0 ? who : what == 1 ? why : what == 2 ? limit : entry.getValue().number;
    }

    private static Map<String, Integer> facts(Case c, int year) {
        Map<String, Integer> f = new HashMap<>();
        f.put("speed", c.speed);
        f.put("pace", c.pace);
        f.put("seen", seen(c));
        f.put("met", trace(c, c.speed).met < 0 ? 0 : 1);
        f.put("looks", c.looks ? 1 : 0);
        f.put("kind", c.kind);
        f.put("floor", c.floor);
        f.put("width", c.width);
        f.put("hidden", c.parked ? 1 : 0);
        f.put("year", year);
        f.put("limit", 0);
        return f;
    }

    int changes(int meeting, int i) {
        List<Integer> found = new ArrayList<>();
        for (int year = 1; year <= 30; year++) {
            if (whose(meeting, year, 0) != whose(meeting, year - 1, 0)) {
                found.add(year);
            }
        }
        return i < found.size() ? found.get(i) : -1;
    }

    // ---- customs

    static boolean word(Case c, int word) {
        return word < 8 ? sign(c, word) : !sign(c, word - 8);
    }

    List<int[]> possible(int year) {
        List<int[]> customs = new ArrayList<>();
        for (int a = 0; a < 16; a++) {
            customs.add(new int[] {a});
            for (int b = a + 1; b < 16; b++) {
                if (a % 8 != b % 8) {
                    customs.add(new int[] {a, b});
                }
            }
        }
        customs.removeIf(custom -> {
            for (Ruling r : rulings) {
                if (r.year >= year && r.year <= view() && at(custom, r.on) != r.driver) {
                    return true;
                }
            }
            return false;
        });
        return customs;
    }

    static boolean at(int[] custom, Case c) {
        return word(c, custom[0]) && word(c, custom[custom.length - 1]);
    }

    int held(int meeting, int year) {
        List<int[]> customs = possible(year);
        long at = customs.stream().filter(custom -> at(custom, cases.get(meeting))).count();
        return customs.isEmpty() ? -1 : at == customs.size() ? 2 : at > 0 ? 1 : 0;
    }

    int since(int word) {
        for (int year = 0; year <= view(); year++) {
            int from = year;
            List<int[]> customs = possible(year);
            boolean all = customs.stream().allMatch(c -> c[0] == word || c[c.length - 1] == word);
            boolean told = rulings.stream().anyMatch(r -> r.year >= from && r.year <= view());
            if (!customs.isEmpty() && all) {
                return told ? year : -1;
            }
        }
        return -1;
    }

    // ---- lights: the partitions one after the other

    int lights(int lost, int what) {
        List<long[]> found = new ArrayList<>();
        int[] told = java.util.stream.IntStream.range(0, 4).filter(i -> streams[i] != null).toArray();
        if (told.length == 0) {
            return -1;
        }
        split(told, 0, new ArrayList<>(), lost, found);
        found.sort((a, b) -> a[0] != b[0] ? Long.compare(a[0], b[0])
            : a[1] != b[1] ? Long.compare(a[1], b[1]) : Long.compare(a[2], b[2]));
        if (found.isEmpty()) {
            return -1;
        }
        long[] best = found.get(0);
        if (what == 4) {
            return (int) best[1];
        }
        if (what == 5) {
            return (int) best[0];
        }
        int stream = what < 4 ? what : what - 6;
        if (streams[stream] == null) {
            return -1;
        }
        return (int) (what < 4 ? best[2] >> 2 * stream & 3 : best[3 + stream]);
    }

    private void split(int[] told, int i, List<List<Integer>> sets, int lost, List<long[]> found) {
        if (i == told.length) {
            weigh(sets, lost, found);
            return;
        }
        for (List<Integer> set : new ArrayList<>(sets)) {
            if (set.stream().allMatch(other -> together[other][told[i]])) {
                set.add(told[i]);
                split(told, i + 1, sets, lost, found);
                set.remove(set.size() - 1);
            }
        }
        sets.add(new ArrayList<>(List.of(told[i])));
        split(told, i + 1, sets, lost, found);
        sets.remove(sets.size() - 1);
    }

    private void weigh(List<List<Integer>> sets, int lost, List<long[]> found) {
        int round = 0;
        for (List<Integer> set : sets) {
            round += lost + length(set);
        }
        if (round > 120) {
            return;
        }
        long[] row = new long[7];
        row[1] = round;
        for (int p = 0; p < sets.size(); p++) {
            for (int stream : sets.get(p)) {
                row[3 + stream] = (long) streams[stream][3] * (round - length(sets.get(p)));
                row[0] += row[3 + stream];
                row[2] += (long) p << 2 * stream;
            }
        }
        found.add(row);
    }

    private int length(List<Integer> set) {
        int longest = 0;
        for (int stream : set) {
            int[] s = streams[stream];
            int walk = s[0] == 0 ? 0 : (int) Math.ceil(s[0] * 10 / (double) s[1]);
            longest = Math.max(longest, Math.max(s[2], walk));
        }
        return longest;
    }

    // ---- bills: a class is its heads and its nine leanings behind them

    int yes(int clauses) {
        int heads = 0;
        for (int[] c : classes) {
            int sum = 0;
            for (int i = 0; i < 9; i++) {
                sum += (clauses >> i & 1) * c[1 + i];
            }
            heads += sum >= 0 ? c[0] : 0;
        }
        return heads;
    }

    boolean passes(int clauses) {
        int all = classes.stream().mapToInt(c -> c[0]).sum();
        return yes(clauses) > all - yes(clauses);
    }

    int most(int clauses) {
        int best = -1;
        for (int set = 0; set <= clauses; set++) {
            if ((set & clauses) == set && passes(set) && (best < 0 || isMore(set, best))) {
                best = set;
            }
        }
        return best;
    }

    private boolean isMore(int set, int best) {
        int a = Integer.bitCount(set);
        int b = Integer.bitCount(best);
        return a > b || a == b && yes(set) >= yes(best);
    }

    // ---- counts

    int fell(int street, int y, int z) {
        long[] a = counts.get(street * 100 + y);
        long[] b = counts.get(street * 100 + z);
        if (y >= z || a == null || b == null) {
            return -1;
        }
        return b[0] >= a[0] ? 0 : b[0] * a[1] >= a[0] * b[1] ? 1 : 2;
    }

    // ---- plans: every number in threes

    int plan(int late, int what) {
        int best = -1;
        int bestSum = 0;
        int bestLate = 0;
        for (int n = 0; n < 6561; n++) {
            int sum = 0;
            boolean can = true;
            for (int i = 0, rest = n; i < 8; i++, rest /= 3) {
                if (streets[i] == null) {
                    can &= rest % 3 == 0;
                } else {
                    sum += streets[i][2 + rest % 3];
                }
            }
            if (!can || best >= 0 && sum >= bestSum) {
                continue;
            }
            int lates = 0;
            for (int[] trip : trips) {
                can &= leads(trip, n, 1);
                lates += leads(trip, n, 0) ? 0 : 1;
            }
            if (can && lates <= late) {
                best = n;
                bestSum = sum;
                bestLate = lates;
            }
        }
        if (best < 0 || what < 8 && streets[what] == null) {
            return -1;
        }
        return what == 8 ? bestSum : what == 9 ? bestLate : best / (int) Math.pow(3, what) % 3;
    }

    private boolean leads(int[] trip, int plan, int most) {
        boolean[] there = new boolean[8];
        there[trip[0]] = true;
        for (int again = 0; again < 8; again++) {
            for (int i = 0, rest = plan; i < 8; i++, rest /= 3) {
                if (streets[i] != null && rest % 3 <= most) {
                    boolean either = there[streets[i][0]] || there[streets[i][1]];
                    there[streets[i][0]] = either;
                    there[streets[i][1]] = either;
                }
            }
        }
        return there[trip[1]];
    }
}
