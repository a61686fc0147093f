import java.util.Random;

/** Runs of calls by numbers that are the same each time, each answer compared with PlainStreet's. */
public final class CompareTest {
    private static final Checks CHECKS = new Checks();
    private static final String[] WORDS = {"speed", "pace", "seen", "met", "looks", "kind", "floor", "width", "hidden",
        "limit", "year", "a", "b", "c", "d", "e", "f", "g", "h", "i", "fast", "abcdefgh", "abcdefghi"};
    private static final String[] ODD = {"let", "limit", "fault", "when", "and", "or", "not", "(", ")", "<", "=", "+", "-",
        "*", ";", "driver", "none", "12345", "1000", "0", "?", "A", "a", "z", "9", ""};

    private final Random random;
    private final WhoseStreet s = new WhoseStreet();
    private final PlainStreet p = new PlainStreet();
    private final int seed;
    private int names;

    private CompareTest(int seed) {
        this.seed = seed;
        random = new Random(seed);
    }

    public static void main(String[] args) {
        for (int seed = 0; seed < 600; seed++) {
            new CompareTest(seed).rides();
            new CompareTest(seed).laws();
            new CompareTest(seed).texts();
            new CompareTest(seed).longTexts();
            new CompareTest(seed).customs();
            new CompareTest(seed).lights();
            new CompareTest(seed).bills();
            new CompareTest(seed).counts();
        }
        for (int seed = 0; seed < 60; seed++) {
            new CompareTest(seed).plans();
        }
        CHECKS.end();
    }

    private void due(String what, long got, long want) {
        CHECKS.due("seed " + seed + " " + what, got, want);
    }

    private int from(int low, int high) {
        return low + random.nextInt(high - low + 1);
    }

    private void tellMeeting() {
        boolean far = random.nextInt(4) == 0;
        PlainStreet.Case c = new PlainStreet.Case();
        c.x = far ? from(-9999, -1) : from(-400, -1);
        c.speed = far ? from(1, 300) : from(40, 160);
        c.reacts = from(0, 5);
        c.y = far ? from(-999, -1) : from(-120, -1);
        c.pace = far ? from(1, 60) : from(5, 40);
        int looks = from(0, 5);
        c.looks = looks % 2 == 1;
        c.kind = looks / 2;
        due("meeting", s.meeting(0, c.x, c.speed, c.reacts, c.y, c.pace, looks), p.cases.size());
        p.cases.add(c);
    }

    private void tellStand() {
        int meeting = random.nextInt(p.cases.size());
        PlainStreet.Case c = p.cases.get(meeting);
        c.parked = random.nextInt(4) > 0;
        c.sx = c.parked ? from(Math.max(c.x / 2 - 5, -9999), -1) : 0;
        c.sy = from(Math.max(c.y / 2 - 5, -999), -1);
        c.floor = from(0, 2);
        c.width = random.nextBoolean() ? from(0, 15) : from(0, 99);
        CHECKS.due("stand", s.stand(meeting, c.sx, c.sy, c.floor, c.width), true);
    }

    private void rides() {
        for (int i = 0; i < 4; i++) {
            tellMeeting();
            if (random.nextBoolean()) {
                tellStand();
            }
        }
        int met = 0;
        for (int i = 0; i < 4; i++) {
            for (int what = 0; what <= 6; what++) {
                due("look(" + i + ", " + what + ")", s.look(i, what), p.look(i, what));
            }
            PlainStreet.Trace trace = PlainStreet.trace(p.cases.get(i), p.cases.get(i).speed);
            for (int t = 0; t <= 60; t++) {
                due("car in " + t, Checks.at(s, i, 0, t), t > trace.end ? Checks.THROWN : trace.xs[t]);
                due("walker in " + t, Checks.at(s, i, 1, t), t > trace.end ? Checks.THROWN : trace.ys[t]);
            }
            met += trace.met < 0 ? 0 : 1;
        }
        due("MET", s.count(11), met);
    }

    private void passYears() {
        int n = from(0, 2);
        if (p.now + n <= 30) {
            p.now += n;
            due("years", s.years(n), p.now);
        }
        if (random.nextInt(3) == 0) {
            int year = from(0, p.now);
            p.view = year == p.now ? -1 : year;
            CHECKS.due("view", s.view(year), true);
        }
        due("THE VIEW", s.count(1), p.view());
    }

    private String expression(int depth) {
        StringBuilder e = new StringBuilder(part(depth));
        boolean compared = false;
        for (int n = random.nextInt(4); n > 0; n--) {
            int op = random.nextInt(compared ? 5 : 7);
            e.append(' ').append(new String[] {"and", "or", "+", "-", "*", "<", "="}[op]).append(' ');
            compared = op >= 5 || compared && op >= 2;
            e.append(part(depth));
        }
        return e.toString();
    }

    private String part(int depth) {
        int kind = random.nextInt(depth < 3 ? 8 : 6);
        if (kind == 6) {
            return "not " + part(depth + 1);
        }
        if (kind == 7) {
            return "(" + expression(depth + 1) + ")";
        }
        if (kind < 3) {
            return Integer.toString(random.nextInt(4) == 0 ? from(0, 9999) : from(0, 120));
        }
        return random.nextInt(3) == 0 && names > 0 ? "n" + (char) ('a' + random.nextInt(names)) : WORDS[random.nextInt(11)];
    }

    private String lawText() {
        StringBuilder text = new StringBuilder();
        names = 0;
        for (int lines = random.nextInt(9); lines > 0; lines--) {
            int kind = random.nextInt(4);
            if (kind == 0 && names < 8) {
                text.append("let n").append((char) ('a' + names)).append(" = ").append(expression(0)).append(";\n");
                names++;
            } else if (kind == 1) {
                text.append("limit ").append(from(1, 999)).append(" when ").append(expression(0)).append(" ;");
            } else {
                text.append("fault ").append(new String[] {"none", "driver", "walker", "both"}[random.nextInt(4)]);
                text.append(" when ").append(expression(0)).append("; ");
            }
        }
        return text.length() > 1000 ? "" : text.toString();
    }

    private void laws() {
        for (int i = 0; i < 3; i++) {
            tellMeeting();
            tellStand();
        }
        for (int i = 0; i < 18; i++) {
            if (random.nextInt(3) == 0) {
                passYears();
            }
            String text = lawText();
            int year = random.nextBoolean() ? from(0, 6) : from(0, 30);
            due("law [" + text + "]", Checks.law(s, text, year), p.law(text, year));
            due("BY-LAWS", s.count(3), p.laws.size());
            int meeting = random.nextInt(3);
            for (int what = 0; what <= 3; what++) {
                int asked = from(0, 30);
                due("whose what " + what, s.whose(meeting, asked, what), p.whose(meeting, asked, what));
            }
            int which = random.nextInt(4);
            due("changes", s.changes(meeting, which), p.changes(meeting, which));
        }
    }

    /** Texts of laws with a token more, less or other, so that each fault comes. */
    private void texts() {
        for (int i = 0; i < 20; i++) {
            String text = random.nextInt(4) == 0 ? manyLines() : lawText();
            for (int n = random.nextInt(3); n > 0; n--) {
                int at = random.nextInt(text.length() + 1);
                int to = Math.min(text.length(), at + random.nextInt(3));
                String blank = random.nextBoolean() ? " " : "";
                String odd = random.nextBoolean() ? ODD[random.nextInt(ODD.length)] : WORDS[random.nextInt(WORDS.length)];
                text = text.substring(0, at) + blank + odd + blank + text.substring(to);
            }
            if (text.length() <= 1000) {
                WhoseStreet fresh = new WhoseStreet();
                due("text [" + text + "]", Checks.law(fresh, text, 0), new PlainStreet().law(text, 0));
            }
        }
    }

    /** Whole laws, right ones and nearly right ones, and what the right ones say. */
    private void longTexts() {
        LawTexts texts = new LawTexts(random);
        tellMeeting();
        tellStand();
        for (int i = 0; i < 20; i++) {
            String text = texts.next();
            int year = from(0, 30);
            due("text [" + text + "]", Checks.law(s, text, year), p.law(text, year));
            for (int what = 0; what <= 3; what++) {
                int asked = from(year, 30);
                due("whose what " + what, s.whose(0, asked, what), p.whose(0, asked, what));
            }
        }
    }

    private String manyLines() {
        StringBuilder text = new StringBuilder();
        for (int i = 0; i < 24; i++) {
            text.append(random.nextInt(3) == 0 ? "let " + WORDS[11 + random.nextInt(12)] + "=" : "fault both when ");
            text.append(random.nextInt(8) == 0 ? "not (not not 1" + (random.nextBoolean() ? ")" : "*(2))") : "1").append(";");
        }
        return text.toString();
    }

    private void customs() {
        for (int i = 0; i < 6; i++) {
            tellMeeting();
            tellStand();
        }
        int[] secret = {random.nextInt(16), random.nextInt(16)};
        for (int i = 0; i < 25; i++) {
            if (random.nextInt(3) == 0) {
                passYears();
            }
            PlainStreet.Ruling r = new PlainStreet.Ruling();
            int meeting = random.nextInt(6);
            r.on = p.cases.get(meeting);
            r.year = p.now;
            r.driver = PlainStreet.at(secret, r.on) != (random.nextInt(15) == 0);
            p.rulings.add(r);
            CHECKS.due("ruling", s.ruling(meeting, r.driver), true);
            int year = from(0, Math.min(30, p.now + 1));
            due("customs", s.customs(year), p.possible(year).size());
            int asked = random.nextInt(6);
            due("held", s.held(asked, year), p.held(asked, year));
            due("since", s.since(secret[0]), p.since(secret[0]));
            int word = random.nextInt(16);
            due("since", s.since(word), p.since(word));
            due("by THE VIEW", s.count(5), p.rulings.stream().filter(told -> told.year <= p.view()).count());
            if (random.nextInt(20) == 0) {
                tellStand();
            }
        }
    }

    private void lights() {
        boolean few = random.nextBoolean();
        for (int i = 0; i < 20; i++) {
            int stream = random.nextInt(4);
            int width = random.nextBoolean() ? 0 : from(1, 30);
            int[] told = {width, from(5, 60), few ? 10 * from(1, 3) : from(1, 60), few ? from(0, 2) : from(0, 999)};
            p.streams[stream] = told;
            CHECKS.due("stream", s.stream(stream, told[0], told[1], told[2], told[3]), true);
            int a = random.nextInt(4);
            int b = (a + from(1, 3)) % 4;
            boolean may = random.nextInt(3) > 0;
            p.together[a][b] = may;
            p.together[b][a] = may;
            CHECKS.due("together", s.together(a, b, may), true);
            int lost = from(0, 9);
            for (int what = 0; what <= 9; what++) {
                due("lights(" + lost + ", " + what + ")", s.lights(lost, what), p.lights(lost, what));
            }
        }
    }

    private void bills() {
        for (int i = 0; i < 30; i++) {
            if (p.classes.size() < 8 && random.nextInt(3) == 0) {
                int[] told = new int[10];
                told[0] = random.nextBoolean() ? from(1, 4) : from(1, 9999);
                due("voters", s.voters(told[0]), p.classes.size());
                p.classes.add(told);
            }
            for (int n = 0; n < 4 && !p.classes.isEmpty(); n++) {
                int voters = random.nextInt(p.classes.size());
                int clause = random.nextInt(9);
                int leaning = random.nextBoolean() ? from(-2, 1) : from(-99, 60);
                p.classes.get(voters)[1 + clause] = leaning;
                CHECKS.due("leans", s.leans(voters, clause, leaning), true);
            }
            int set = random.nextInt(512);
            due("passes(" + set + ")", s.passes(set), p.passes(set) ? 1 : 0);
            due("most(" + set + ")", s.most(set), p.most(set));
        }
    }

    private void counts() {
        for (int i = 0; i < 60; i++) {
            int street = random.nextInt(8);
            int year = from(0, 5);
            int hurt = random.nextInt(8) == 0 ? -1 : random.nextBoolean() ? from(0, 9) : from(0, 9999);
            int walked = random.nextBoolean() ? from(0, 9) : from(0, 99999);
            p.counts.put(street * 100 + year, hurt < 0 ? null : new long[] {hurt, walked});
            CHECKS.due("counted", s.counted(street, year, hurt, walked), true);
            for (int n = 0; n < 3; n++) {
                int y = from(0, 5);
                int z = from(0, 5);
                due("fell", s.fell(street, y, z), p.fell(street, y, z));
            }
        }
    }

    private void plans() {
        for (int i = 0; i < 24; i++) {
            int street = random.nextInt(8);
            int a = random.nextInt(8);
            int b = (a + from(1, random.nextBoolean() ? 2 : 7)) % 8;
            int most = random.nextBoolean() ? 3 : 999;
            int[] told = {a, b, from(0, most), from(0, most), from(0, most)};
            p.streets[street] = told;
            CHECKS.due("street", s.street(street, a, b, told[2], told[3], told[4]), true);
            if (random.nextInt(5) == 0 && p.trips.size() < 8) {
                int[] trip = {p.streets[street][0], random.nextInt(8)};
                if (trip[0] != trip[1]) {
                    due("trip", s.trip(trip[0], trip[1]), p.trips.size());
                    p.trips.add(trip);
                }
            }
            int late = from(0, 8);
            for (int what = 0; what <= 9; what += from(1, 4)) {
                due("plan(" + late + ", " + what + ")", s.plan(late, what), p.plan(late, what));
            }
        }
    }
}
