import java.util.Arrays;
import java.util.NoSuchElementException;

/** Whose is the street. The words in capitals are those of the document, ../shared/DOC.md. */
public final class WhoseStreet {
    public static final int NONE = -1;

    private static final int LAST_YEAR = 30;
    private static final int MOST_MEETINGS = 40;

    private final Meeting[] meetings = new Meeting[MOST_MEETINGS];
    private final Ride ride = new Ride();
    private final Tape tape = new Tape();
    private final Reader reader = new Reader();
    private final Book book = new Book();
    private final Bench bench = new Bench();
    private final Corner corner = new Corner();
    private final House house = new House();
    private final Ledger ledger = new Ledger();
    private final Town town = new Town();
    private int meetingsTold;
    private int now;
    /** NONE while THE VIEW goes with NOW: a YEAR kept here would stay behind when YEARS pass. */
    private int viewTold = NONE;

    public WhoseStreet() {
    }

    public int years(int n) {
        if (!within(n, 0, LAST_YEAR) || now + n > LAST_YEAR) {
            return NONE;
        }
        now += n;
        return now;
    }

    public boolean view(int year) {
        if (!within(year, 0, now)) {
            return false;
        }
        viewTold = year == now ? NONE : year;
        return true;
    }

    public int meeting(int year, int x, int speed, int reacts, int y, int pace, int looks) {
        boolean car = within(x, -9999, -1) && within(speed, 1, 300) && within(reacts, 0, 5);
        boolean walker = within(y, -999, -1) && within(pace, 1, 60) && within(looks, 0, 5);
        if (!within(year, 0, now) || !car || !walker || meetingsTold >= MOST_MEETINGS) {
            return NONE;
        }
        Meeting told = new Meeting(x, speed, reacts, y, pace, looks);
        ride.settle(told);
        meetings[meetingsTold] = told;
        meetingsTold++;
        return meetingsTold - 1;
    }

    public boolean stand(int meeting, int sx, int sy, int floor, int width) {
        Meeting m = meetingOf(meeting);
        boolean parked = sx == 0 || within(sx, -9999, -1) && within(sy, -999, -1);
        if (m == null || !parked || !within(floor, 0, 2) || !within(width, 0, 99)) {
            return false;
        }
        m.sx = sx;
        m.sy = sy;
        m.floor = floor;
        m.width = width;
        ride.settle(m);
        return true;
    }

    public int look(int meeting, int what) {
        Meeting m = meetingOf(meeting);
        if (m == null) {
            return NONE;
        }
        switch (what) {
            case 0:
                return m.met;
            case 1:
                return m.first;
            case 2:
                return ride.safeSpeed(m);
            case 3:
                return m.seen();
            case 4:
                return m.metSpeed;
            case 5:
                return m.signs();
            case 6:
                return m.stopped;
            default:
                return NONE;
        }
    }

    public int at(int meeting, int who, int t) throws NoSuchElementException {
        Meeting m = meetingOf(meeting);
        if (m == null || !within(who, 0, 1) || !within(t, 0, m.end())) {
            throw new NoSuchElementException("no such meeting, one who is not there, or a second behind the end");
        }
        ride.go(m, m.speed, t);
        return who == 0 ? ride.x : ride.y;
    }

    public int feed(long a, long b, long c) {
        tape.put(a);
        tape.put(b);
        tape.put(c);
        return tape.size;
    }

    public int law(int year) {
        int answer = NONE;
        if (within(year, 0, LAST_YEAR) && !book.isFull()) {
            answer = reader.read(tape);
            if (answer == 0) {
                book.add(new Law(now, year, reader.written()));
            }
        }
        tape.size = 0;
        return answer;
    }

    public int whose(int meeting, int year, int what) {
        Meeting m = meetingOf(meeting);
        if (m == null || !within(year, 0, LAST_YEAR)) {
            return NONE;
        }
        book.judge(m, year, viewNow());
        switch (what) {
            case 0:
                return book.who;
            case 1:
                return book.why;
            case 2:
                return book.limit;
            case 3:
                return book.which;
            default:
                return NONE;
        }
    }

    public int changes(int meeting, int i) {
        Meeting m = meetingOf(meeting);
        if (m == null || i < 0) {
            return NONE;
        }
        book.judge(m, 0, viewNow());
        int before = book.who;
        int found = 0;
        for (int year = 1; year <= LAST_YEAR; year++) {
            book.judge(m, year, viewNow());
            if (book.who != before) {
                if (found == i) {
                    return year;
                }
                found++;
            }
            before = book.who;
        }
        return NONE;
    }

    public boolean ruling(int meeting, boolean driver) {
        Meeting m = meetingOf(meeting);
        return m != null && bench.add(m, now, driver);
    }

    public int customs(int year) {
        if (!within(year, 0, LAST_YEAR)) {
            return NONE;
        }
        bench.keepFrom(year, viewNow());
        return bench.kept;
    }

    public int held(int meeting, int year) {
        Meeting m = meetingOf(meeting);
        if (m == null || !within(year, 0, LAST_YEAR)) {
            return NONE;
        }
        bench.keepFrom(year, viewNow());
        return bench.judge(m);
    }

    public int since(int word) {
        return within(word, 0, 15) ? bench.firstYearOf(word, viewNow()) : NONE;
    }

    public boolean stream(int stream, int width, int slow, int green, int come) {
        boolean cars = width == 0;
        boolean walkers = within(width, 1, 99) && within(slow, 1, 60);
        if (!within(stream, 0, 3) || !cars && !walkers || !within(green, 1, 60) || !within(come, 0, 999)) {
            return false;
        }
        corner.tell(stream, cars ? green : Math.max(green, up(width * 10, slow)), come);
        return true;
    }

    public boolean together(int a, int b, boolean may) {
        if (!within(a, 0, 3) || !within(b, 0, 3) || a == b) {
            return false;
        }
        corner.pair(a, b, may);
        corner.pair(b, a, may);
        return true;
    }

    public int lights(int lost, int what) {
        if (!within(lost, 0, 9) || !within(what, 0, 9) || !corner.findBest(lost)) {
            return NONE;
        }
        if (what == 4) {
            return corner.bestRound;
        }
        if (what == 5) {
            return corner.bestWaiting;
        }
        int stream = what < 4 ? what : what - 6;
        if (!corner.isTold(stream)) {
            return NONE;
        }
        return what < 4 ? corner.bestPhaseOf(stream) : corner.bestWaitingOf(stream, lost);
    }

    public int voters(int heads) {
        return within(heads, 1, 9999) ? house.add(heads) : NONE;
    }

    public boolean leans(int voters, int clause, int n) {
        if (!within(voters, 0, house.classes - 1) || !within(clause, 0, 8) || !within(n, -99, 99)) {
            return false;
        }
        house.lean(voters, clause, n);
        return true;
    }

    public int passes(int clauses) {
        if (!within(clauses, 0, 511)) {
            return NONE;
        }
        return house.isCarried(clauses) ? 1 : 0;
    }

    public int most(int clauses) {
        return within(clauses, 0, 511) ? house.mostLeft(clauses) : NONE;
    }

    public boolean counted(int street, int year, int hurt, int walked) {
        boolean numbers = hurt == NONE || within(hurt, 0, 9999) && within(walked, 0, 99999);
        if (!within(street, 0, 7) || !within(year, 0, LAST_YEAR) || !numbers) {
            return false;
        }
        ledger.write(street, year, hurt, walked);
        return true;
    }

    public int fell(int street, int y, int z) {
        if (!within(street, 0, 7) || !within(y, 0, LAST_YEAR) || !within(z, 0, LAST_YEAR) || y >= z) {
            return NONE;
        }
        return ledger.compare(street, y, z);
    }

    public boolean street(int street, int a, int b, int as, int slow, int closed) {
        boolean places = within(a, 0, 7) && within(b, 0, 7) && a != b;
        boolean hurt = within(as, 0, 999) && within(slow, 0, 999) && within(closed, 0, 999);
        if (!within(street, 0, 7) || !places || !hurt) {
            return false;
        }
        town.lay(street, a, b);
        town.tellHurt(street, as, slow, closed);
        return true;
    }

    public int trip(int from, int to) {
        return within(from, 0, 7) && within(to, 0, 7) && from != to ? town.addTrip(from, to) : NONE;
    }

    public int plan(int late, int what) {
        if (!within(late, 0, 8) || !within(what, 0, 9)) {
            return NONE;
        }
        int lateOnes = town.bestLate(late);
        if (lateOnes == NONE) {
            return NONE;
        }
        if (what == 8) {
            return town.sumWith(lateOnes);
        }
        return what == 9 ? lateOnes : town.doneWith(what, lateOnes);
    }

    public int count(int what) {
        switch (what) {
            case 0:
                return now;
            case 1:
                return viewNow();
            case 2:
                return meetingsTold;
            case 3:
                return book.laws;
            case 4:
                return bench.rulings;
            case 5:
                return bench.toldBy(viewNow());
            case 6:
                return tape.size;
            case 7:
                return corner.streams();
            case 8:
                return house.classes;
            case 9:
                return Integer.bitCount(town.told);
            case 10:
                return town.trips;
            case 11:
                return meetingsMet();
            default:
                return NONE;
        }
    }

    private int viewNow() {
        return viewTold == NONE ? now : viewTold;
    }

    private Meeting meetingOf(int i) {
        return i >= 0 && i < meetingsTold && i < MOST_MEETINGS ? meetings[i] : null;
    }

    private int meetingsMet() {
        int n = 0;
        for (int i = 0; i < meetingsTold; i++) {
            Meeting m = meetingOf(i);
            if (m != null && m.met != NONE) {
                n++;
            }
        }
        return n;
    }

    private static boolean within(int n, int low, int high) {
        return n >= low && n <= high;
    }

    /** a / b cut upwards, for a and b above 0. */
    private static int up(int a, int b) {
        return b <= 0 ? 0 : (a + b - 1) / b;
    }

    /** A MEETING as it was told, and what came of it. */
    private static final class Meeting {
        final int x;
        final int speed;
        final int reacts;
        final int y;
        final int pace;
        final boolean looks;
        final int kind;
        /** 0 without a STAND. */
        int sx;
        int sy;
        int floor;
        int width = 50;
        int met;
        int first;
        int stopped;
        int metSpeed;
        /** NONE until it is asked for: to find it is dear. */
        int safe;

        Meeting(int x, int speed, int reacts, int y, int pace, int looks) {
            this.x = x;
            this.speed = speed;
            this.reacts = reacts;
            this.y = y;
            this.pace = pace;
            this.looks = (looks & 1) != 0;
            this.kind = looks >> 1;
        }

        int end() {
            return met == NONE ? Ride.LAST_SECOND : met;
        }

        int seen() {
            return first == NONE ? 0 : end() - first;
        }

        int signs() {
            return bit(0, speed > 100) | bit(1, kind == 1) | bit(2, kind == 2) | bit(3, seen() >= 2)
                | bit(4, looks) | bit(5, sx != 0) | bit(6, floor != 0) | bit(7, width < 10);
        }

        /** The WORDS OF IT that are so, as bits: SIGNS below, their opposites above. */
        int words() {
            int signs = signs();
            return signs | (~signs & 255) << 8;
        }

        int fact(int word) {
            switch (word) {
                case Tape.SPEED:
                    return speed;
                case Tape.PACE:
                    return pace;
                case Tape.SEEN:
                    return seen();
                case Tape.MET:
                    return met == NONE ? 0 : 1;
                case Tape.LOOKS:
                    return looks ? 1 : 0;
                case Tape.KIND:
                    return kind;
                case Tape.FLOOR:
                    return floor;
                case Tape.WIDTH:
                    return width;
                case Tape.HIDDEN:
                    return sx == 0 ? 0 : 1;
                default:
                    return 0;
            }
        }

        private static int bit(int place, boolean set) {
            return set ? 1 << place : 0;
        }
    }

    /** CAR and WALKER of a MEETING on their way; one object goes every way again. */
    private static final class Ride {
        static final int LAST_SECOND = 60;
        private static final int[] BRAKES = {60, 35, 10};

        int x;
        int y;
        private int v;
        private int t;
        private int first;
        private int stopped;
        private int met;

        /** Goes the MEETING's way and writes into it what came of it. */
        void settle(Meeting m) {
            go(m, m.speed, LAST_SECOND);
            m.met = met;
            m.first = first;
            m.stopped = stopped;
            m.metSpeed = met == NONE ? NONE : v;
            m.safe = NONE;
        }

        int safeSpeed(Meeting m) {
            if (m.safe == NONE) {
                m.safe = findSafeSpeed(m);
            }
            return m.safe;
        }

        private int findSafeSpeed(Meeting m) {
            for (int speed = m.speed; speed > 0; speed--) {
                go(m, speed, LAST_SECOND);
                if (met == NONE) {
                    return speed;
                }
            }
            return 0;
        }

        void go(Meeting m, int speed, int until) {
            x = m.x;
            y = m.y;
            v = speed;
            t = 0;
            first = NONE;
            stopped = NONE;
            met = NONE;
            for (int i = 0; i < until && met == NONE; i++) {
                goOn(m);
            }
            // SECOND 60 is one too: nobody goes on in it, but he can see in it.
            notice(sees(m));
        }

        private void goOn(Meeting m) {
            boolean sees = sees(m);
            notice(sees);
            boolean stays = m.looks && sees && v > 0 && up(-x, v) <= up(-y, m.pace);
            if (first != NONE && t >= first + m.reacts) {
                brake(m.floor);
            }
            if (v == 0 && stopped == NONE) {
                stopped = t;
            }
            x += v;
            if (!stays) {
                y += m.pace;
            }
            t++;
            if (v > 0 && within(x, 0, 40) && within(y, -8, 8)) {
                met = t;
            }
        }

        private void notice(boolean sees) {
            if (sees && first == NONE) {
                first = t;
            }
        }

        private void brake(int floor) {
            if (floor >= 0 && floor < BRAKES.length) {
                v = Math.max(0, v - BRAKES[floor]);
            }
        }

        private boolean sees(Meeting m) {
            boolean hidden = m.sx != 0 && x < m.sx && y < m.sy && m.sx * y + m.sy * x <= x * y;
            return x < 0 && y < 0 && !hidden;
        }
    }

    /** The TAPE and the token at which its reader is. */
    private static final class Tape {
        /** Tokens: a told word is its place in WORDS, a sign its character, the others are above both. */
        static final int NOBODY = 0;
        static final int BOTH = 3;
        static final int LET = 4;
        static final int FAULT = 5;
        static final int WHEN = 6;
        static final int AND = 7;
        static final int OR = 8;
        static final int NOT = 9;
        static final int SPEED = 10;
        static final int PACE = 11;
        static final int SEEN = 12;
        static final int MET = 13;
        static final int LOOKS = 14;
        static final int KIND = 15;
        static final int FLOOR = 16;
        static final int WIDTH = 17;
        static final int HIDDEN = 18;
        static final int YEAR = 19;
        static final int LIMIT = 20;
        static final int NAME = 200;
        static final int NUMBER = 201;
        static final int END = 202;
        static final int BAD = 203;

        static final int MOST_SIGNS = 1000;
        private static final int LONGEST_WORD = 8;
        private static final int LONGEST_NUMBER = 4;
        private static final String WORDS =
            "none driver walker both let fault when and or not speed pace seen met looks kind floor width hidden year limit ";
        private static final String SIGNS = "()<=+-*;";

        private final byte[] signs = new byte[MOST_SIGNS];
        private final long[] wordKeys = new long[LIMIT + 1];
        int size;
        private int next;
        int token;
        int place;
        /** What a NUMBER comes to. */
        int number;
        /** The letters of a WORD, five bits each: so WORDS are told apart without a String. */
        long key;

        Tape() {
            int word = 0;
            long letters = 0;
            for (int i = 0; i < WORDS.length() && word < wordKeys.length; i++) {
                char c = WORDS.charAt(i);
                if (c == ' ') {
                    wordKeys[word] = letters;
                    word++;
                    letters = 0;
                } else {
                    letters = withLetter(letters, c);
                }
            }
        }

        void put(long bytes) {
            for (int shift = 56; shift >= 0; shift -= 8) {
                int sign = (int) (bytes >>> shift) & 255;
                if ((sign == 10 || within(sign, 32, 126)) && size < MOST_SIGNS) {
                    signs[size] = (byte) sign;
                    size++;
                }
            }
        }

        void start() {
            next = 0;
            advance();
        }

        void advance() {
            while (next < size && (signs[next] == 10 || signs[next] == 32)) {
                next++;
            }
            place = next;
            if (next >= size) {
                place = size;
                token = END;
            } else if (isLetter(next)) {
                takeWord();
            } else if (isDigit(next)) {
                takeNumber();
            } else {
                char c = (char) signs[next];
                token = SIGNS.indexOf(c) >= 0 ? c : BAD;
                next++;
            }
        }

        private void takeWord() {
            key = 0;
            while (next < size && isLetter(next)) {
                if (next - place < LONGEST_WORD) {
                    key = withLetter(key, (char) signs[next]);
                }
                next++;
            }
            token = next - place > LONGEST_WORD ? BAD : wordOf(key);
        }

        private void takeNumber() {
            number = 0;
            while (next < size && isDigit(next)) {
                if (next - place < LONGEST_NUMBER) {
                    number = number * 10 + signs[next] - '0';
                }
                next++;
            }
            token = next - place > LONGEST_NUMBER ? BAD : NUMBER;
        }

        private int wordOf(long letters) {
            for (int i = 0; i < wordKeys.length; i++) {
                if (wordKeys[i] == letters) {
                    return i;
                }
            }
            return NAME;
        }

        private boolean isLetter(int i) {
            return i >= 0 && i < size && i < MOST_SIGNS && signs[i] >= 'a' && signs[i] <= 'z';
        }

        private boolean isDigit(int i) {
            return i >= 0 && i < size && i < MOST_SIGNS && signs[i] >= '0' && signs[i] <= '9';
        }

        private static long withLetter(long letters, char c) {
            return letters * 32 + (c - 'a' + 1);
        }
    }

    /**
     * Reads a TAPE as a BY-LAW and writes it as code, line behind line: LET, LIMIT or FAULT; the NAME's number,
     * N or WHO; how long E is; E with its operators behind what they work on. Code is never longer than the TAPE.
     */
    private static final class Reader {
        static final int MOST_LINES = 20;
        static final int MOST_NAMES = 8;
        static final int HEAD = 3;
        /** What stands in E: a NUMBER is itself, the others are these and more. */
        static final int FACT = 10000;
        static final int NAMED = 20000;
        static final int OPERATOR = 30000;

        private static final int CANNOT_STAND = 1;
        private static final int NOT_TOLD = 2;
        private static final int TOLD_BEFORE = 3;
        private static final int WRONG_NUMBER = 4;
        private static final int TOO_MANY = 5;
        private static final int MOST_AROUND = 4;
        private static final int COMPARES = 2;

        private final long[] names = new long[MOST_NAMES];
        private final int[] code = new int[Tape.MOST_SIGNS];
        /** Operators, not and ( that wait for what stands behind them. */
        private final int[] waiting = new int[32];
        private Tape tape;
        private int namesTold;
        private int size;
        private int waits;
        /** How many not and ( are around what is read. */
        private int around;
        private int fault;

        /** 0, or the FAULT. */
        int read(Tape from) {
            tape = from;
            namesTold = 0;
            size = 0;
            fault = 0;
            tape.start();
            for (int line = 0; line <= MOST_LINES && fault == 0 && tape.token != Tape.END; line++) {
                readLine(line);
            }
            return fault;
        }

        int[] written() {
            return Arrays.copyOf(code, size);
        }

        private void readLine(int line) {
            int word = tape.token;
            if (word != Tape.LET && word != Tape.LIMIT && word != Tape.FAULT) {
                wrong(CANNOT_STAND);
                return;
            }
            if (line >= MOST_LINES) {
                wrong(TOO_MANY);
                return;
            }
            int start = size;
            write(word);
            tape.advance();
            readWhatFor(word);
            write(0);
            expect(word == Tape.LET ? '=' : Tape.WHEN);
            readExpression();
            expect(';');
            if (fault == 0 && start + HEAD <= size) {
                code[start + HEAD - 1] = size - start - HEAD;
            }
            if (fault == 0 && word == Tape.LET) {
                namesTold++;
            }
        }

        private void readWhatFor(int word) {
            if (word == Tape.LET) {
                readNewName();
            } else if (word == Tape.LIMIT) {
                readLimit();
            } else {
                readWho();
            }
        }

        private void readNewName() {
            if (tape.token != Tape.NAME) {
                wrong(CANNOT_STAND);
            } else if (nameOf(tape.key) != NONE) {
                wrong(TOLD_BEFORE);
            } else if (namesTold >= MOST_NAMES) {
                wrong(TOO_MANY);
            } else {
                names[namesTold] = tape.key;
                write(namesTold);
                tape.advance();
            }
        }

        private void readLimit() {
            if (tape.token != Tape.NUMBER) {
                wrong(CANNOT_STAND);
            } else if (!within(tape.number, 1, 999)) {
                wrong(WRONG_NUMBER);
            } else {
                write(tape.number);
                tape.advance();
            }
        }

        private void readWho() {
            if (!within(tape.token, Tape.NOBODY, Tape.BOTH)) {
                wrong(CANNOT_STAND);
            } else {
                write(tape.token);
                tape.advance();
            }
        }

        private void expect(int token) {
            if (tape.token != token) {
                wrong(CANNOT_STAND);
            } else if (fault == 0) {
                tape.advance();
            }
        }

        /** Stops at the first token that can't go on in E: the caller looks whether it may stand there. */
        private void readExpression() {
            waits = 0;
            around = 0;
            boolean partDue = true;
            for (int i = 0; i <= Tape.MOST_SIGNS && fault == 0; i++) {
                if (partDue) {
                    partDue = readPart();
                } else if (tape.token == ')' && around > 0) {
                    closeBracket();
                } else if (rank(tape.token) > 0) {
                    readOperator();
                    partDue = true;
                } else {
                    break;
                }
            }
            if (around > 0) {
                wrong(CANNOT_STAND);
            }
            writeWaiting(1);
        }

        /** Whether a PART is still due behind it. */
        private boolean readPart() {
            int token = tape.token;
            boolean opens = token == Tape.NOT || token == '(';
            int name = token == Tape.NAME ? nameOf(tape.key) : NONE;
            boolean ends = within(token, Tape.SPEED, Tape.LIMIT) || token == Tape.NAME || token == Tape.NUMBER;
            if (!opens && !ends) {
                wrong(CANNOT_STAND);
            } else if (token == Tape.NAME && name == NONE) {
                wrong(NOT_TOLD);
            } else if (around >= MOST_AROUND) {
                wrong(TOO_MANY);
            } else if (opens) {
                hold(token);
                around++;
                tape.advance();
            } else {
                write(token == Tape.NUMBER ? tape.number : token == Tape.NAME ? NAMED + name : FACT + token);
                writeNots();
                tape.advance();
            }
            return opens;
        }

        /** A PART has come to its end, and so have the nots right ahead of it. */
        private void writeNots() {
            for (int i = 0; i < MOST_AROUND && lastWaiting() == Tape.NOT; i++) {
                write(OPERATOR + Tape.NOT);
                waits--;
                around--;
            }
        }

        private void closeBracket() {
            writeWaiting(1);
            if (lastWaiting() == '(') {
                waits--;
                around--;
            }
            writeNots();
            tape.advance();
        }

        private void readOperator() {
            int token = tape.token;
            int rank = rank(token);
            writeWaiting(rank + 1);
            if (rank == COMPARES && rank(lastWaiting()) == COMPARES) {
                wrong(CANNOT_STAND);
                return;
            }
            writeWaiting(rank);
            hold(token);
            tape.advance();
        }

        /** Writes the operators that wait with this rank at least, back to the ( around them. */
        private void writeWaiting(int rank) {
            for (int i = 0; i < waiting.length && rank(lastWaiting()) >= rank; i++) {
                write(OPERATOR + lastWaiting());
                waits--;
            }
        }

        private int lastWaiting() {
            return waits > 0 && waits <= waiting.length ? waiting[waits - 1] : NONE;
        }

        private void hold(int token) {
            if (waits < waiting.length) {
                waiting[waits] = token;
                waits++;
            }
        }

        private int nameOf(long key) {
            for (int i = 0; i < namesTold && i < MOST_NAMES; i++) {
                if (names[i] == key) {
                    return i;
                }
            }
            return NONE;
        }

        private void write(int n) {
            if (size < code.length) {
                code[size] = n;
                size++;
            }
        }

        /** The first fault stays: what is read behind it is of no matter. */
        private void wrong(int kind) {
            if (fault == 0) {
                fault = kind + 16 * tape.place;
            }
        }

        /** How close an operator binds; 0 is none. */
        private static int rank(int token) {
            switch (token) {
                case Tape.AND:
                case Tape.OR:
                    return 1;
                case '<':
                case '=':
                    return COMPARES;
                case '+':
                case '-':
                    return 3;
                case '*':
                    return 4;
                default:
                    return 0;
            }
        }
    }

    /** A BY-LAW, as Reader writes it. */
    private static final class Law {
        final int told;
        final int from;
        final int[] code;

        Law(int told, int from, int[] code) {
            this.told = told;
            this.from = from;
            this.code = code;
        }
    }

    /** The BY-LAWS, and what they say of a MEETING. */
    private static final class Book {
        private static final int MOST_LAWS = 16;

        private final Law[] told = new Law[MOST_LAWS];
        private final int[] names = new int[Reader.MOST_NAMES];
        private final int[] stack = new int[32];
        int laws;
        int who;
        int why;
        int limit;
        int which;
        private int top;
        /** What year and limit come to in the E that is worked. */
        private int yearAsked;
        private int limitInForce;

        boolean isFull() {
            return laws >= MOST_LAWS;
        }

        void add(Law law) {
            if (laws < MOST_LAWS) {
                told[laws] = law;
                laws++;
            }
        }

        /** Finds who, why, limit and which. */
        void judge(Meeting m, int year, int view) {
            who = 0;
            why = NONE;
            limit = 0;
            which = lawOf(year, view);
            if (which < 0 || which >= MOST_LAWS || told[which] == null) {
                return;
            }
            int[] code = told[which].code;
            yearAsked = year;
            limitInForce = 0;
            workNamesAndLimit(code, m);
            limitInForce = limit;
            findFault(code, m);
        }

        private int lawOf(int year, int view) {
            int best = NONE;
            int bestFrom = NONE;
            for (int i = 0; i < laws && i < MOST_LAWS; i++) {
                Law law = told[i];
                if (law != null && law.told <= view && law.from <= year && law.from >= bestFrom) {
                    best = i;
                    bestFrom = law.from;
                }
            }
            return best;
        }

        /** A NAME is worked once: limit is 0 in it wherever it stands, so it can't come to another number there. */
        private void workNamesAndLimit(int[] code, Meeting m) {
            int at = 0;
            for (int line = 0; line < Reader.MOST_LINES && at + Reader.HEAD <= code.length; line++) {
                int what = code[at + 1];
                int end = at + Reader.HEAD + code[at + 2];
                if (code[at] == Tape.LET && what >= 0 && what < names.length) {
                    names[what] = work(code, at + Reader.HEAD, end, m);
                } else if (code[at] == Tape.LIMIT && limit == 0 && work(code, at + Reader.HEAD, end, m) != 0) {
                    limit = what;
                }
                at = end;
            }
        }

        private void findFault(int[] code, Meeting m) {
            int at = 0;
            for (int line = 0; line < Reader.MOST_LINES && at + Reader.HEAD <= code.length; line++) {
                int end = at + Reader.HEAD + code[at + 2];
                if (code[at] == Tape.FAULT && work(code, at + Reader.HEAD, end, m) != 0) {
                    who = code[at + 1];
                    why = line;
                    return;
                }
                at = end;
            }
        }

        private int work(int[] code, int from, int to, Meeting m) {
            top = 0;
            for (int i = from; i < to && i < code.length; i++) {
                int c = code[i];
                if (c >= Reader.OPERATOR) {
                    operate(c - Reader.OPERATOR);
                } else if (c >= Reader.NAMED) {
                    int name = c - Reader.NAMED;
                    push(name < names.length ? names[name] : 0);
                } else if (c >= Reader.FACT) {
                    push(fact(c - Reader.FACT, m));
                } else {
                    push(c);
                }
            }
            return pop();
        }

        private int fact(int word, Meeting m) {
            if (word == Tape.YEAR) {
                return yearAsked;
            }
            return word == Tape.LIMIT ? limitInForce : m.fact(word);
        }

        private void operate(int operator) {
            int b = pop();
            if (operator == Tape.NOT) {
                push(b == 0 ? 1 : 0);
                return;
            }
            int a = pop();
            switch (operator) {
                case Tape.AND:
                    push(a != 0 && b != 0 ? 1 : 0);
                    break;
                case Tape.OR:
                    push(a != 0 || b != 0 ? 1 : 0);
                    break;
                case '<':
                    push(a < b ? 1 : 0);
                    break;
                case '=':
                    push(a == b ? 1 : 0);
                    break;
                case '+':
                    push(a + b);
                    break;
                case '-':
                    push(a - b);
                    break;
                default:
                    push(a * b);
                    break;
            }
        }

        private void push(int n) {
            if (top < stack.length) {
                stack[top] = n;
                top++;
            }
        }

        private int pop() {
            if (top <= 0) {
                return 0;
            }
            top--;
            return stack[top];
        }
    }

    /** The RULINGS, and the customs that judges can have kept. */
    private static final class Bench {
        private static final int MOST_RULINGS = 80;
        private static final int CUSTOMS = 128;
        private static final int WORDS = 16;

        private final Meeting[] cases = new Meeting[MOST_RULINGS];
        private final int[] years = new int[MOST_RULINGS];
        private final boolean[] drivers = new boolean[MOST_RULINGS];
        /** Each custom as bits: the WORDS OF IT that must be so. */
        private final int[] customs = new int[CUSTOMS];
        /** The POSSIBLE ones among them, kept at the front. */
        private final int[] left = new int[CUSTOMS];
        int rulings;
        int kept;

        Bench() {
            int n = 0;
            for (int a = 0; a < WORDS; a++) {
                for (int b = a; b < WORDS; b++) {
                    // A word and itself is the custom of one word alone.
                    if (b - a != 8 && n < CUSTOMS) {
                        customs[n] = 1 << a | 1 << b;
                        n++;
                    }
                }
            }
        }

        boolean add(Meeting m, int year, boolean driver) {
            if (rulings >= MOST_RULINGS) {
                return false;
            }
            cases[rulings] = m;
            years[rulings] = year;
            drivers[rulings] = driver;
            rulings++;
            return true;
        }

        int toldBy(int view) {
            int n = 0;
            for (int i = 0; i < rulings && i < MOST_RULINGS; i++) {
                if (years[i] <= view) {
                    n++;
                }
            }
            return n;
        }

        void keepFrom(int year, int view) {
            keepAll();
            ruleOut(year, view);
        }

        /** How a MEETING is judged by the customs that are left. */
        int judge(Meeting m) {
            int words = m.words();
            int at = 0;
            for (int i = 0; i < kept && i < CUSTOMS; i++) {
                if (isSo(left[i], words)) {
                    at++;
                }
            }
            if (kept == 0) {
                return NONE;
            }
            return at == kept ? 2 : at > 0 ? 1 : 0;
        }

        /** Goes back from the view: each YEAR can only rule out more, so that each RULING is looked at once. */
        int firstYearOf(int word, int view) {
            int least = NONE;
            keepAll();
            for (int year = view; year >= 0; year--) {
                ruleOut(year, year);
                if (kept > 0 && allHave(word)) {
                    least = year;
                }
            }
            return least;
        }

        private void keepAll() {
            System.arraycopy(customs, 0, left, 0, CUSTOMS);
            kept = CUSTOMS;
        }

        private void ruleOut(int fromYear, int toYear) {
            for (int i = 0; i < rulings && i < MOST_RULINGS; i++) {
                Meeting m = cases[i];
                if (m != null && within(years[i], fromYear, toYear)) {
                    keepThoseOf(m.words(), drivers[i]);
                }
            }
        }

        private void keepThoseOf(int words, boolean driver) {
            int n = 0;
            for (int i = 0; i < kept && i < CUSTOMS; i++) {
                if (isSo(left[i], words) == driver) {
                    left[n] = left[i];
                    n++;
                }
            }
            kept = n;
        }

        private boolean allHave(int word) {
            for (int i = 0; i < kept && i < CUSTOMS; i++) {
                if ((left[i] >> word & 1) == 0) {
                    return false;
                }
            }
            return true;
        }

        private static boolean isSo(int custom, int words) {
            return (words & custom) == custom;
        }
    }

    /** The streams of a corner and the LIGHTS for them. PHASES are one number: a digit of four for each stream. */
    private static final class Corner {
        private static final int STREAMS = 4;
        private static final int LONGEST_ROUND = 120;

        /** 0: not told. */
        private final int[] needs = new int[STREAMS];
        private final int[] comes = new int[STREAMS];
        /** For each stream, as bits, those with which it may go. */
        private final int[] mates = new int[STREAMS];
        private final int[] lengths = new int[STREAMS];
        private int phases;
        private int best;
        int bestRound;
        int bestWaiting;

        void tell(int stream, int need, int come) {
            if (isStream(stream)) {
                needs[stream] = need;
                comes[stream] = come;
            }
        }

        void pair(int a, int b, boolean may) {
            if (isStream(a)) {
                mates[a] = may ? mates[a] | 1 << b : mates[a] & ~(1 << b);
            }
        }

        boolean isTold(int stream) {
            return isStream(stream) && needs[stream] > 0;
        }

        int streams() {
            int n = 0;
            for (int i = 0; i < STREAMS; i++) {
                if (isTold(i)) {
                    n++;
                }
            }
            return n;
        }

        /** Whether there are PHASES at all. The numbers go upwards: of equal ones the least is found first. */
        boolean findBest(int lost) {
            best = NONE;
            if (streams() == 0) {
                return false;
            }
            for (int number = 0; number < 1 << 2 * STREAMS; number++) {
                if (arrange(number)) {
                    compare(number, lost);
                }
            }
            return best != NONE;
        }

        int bestPhaseOf(int stream) {
            return phaseOf(best, stream);
        }

        int bestWaitingOf(int stream, int lost) {
            return arrange(best) ? waitingOf(stream, best, round(lost)) : NONE;
        }

        private void compare(int number, int lost) {
            int round = round(lost);
            if (round > LONGEST_ROUND) {
                return;
            }
            int waiting = 0;
            for (int i = 0; i < STREAMS; i++) {
                waiting += waitingOf(i, number, round);
            }
            if (best == NONE || waiting < bestWaiting || waiting == bestWaiting && round < bestRound) {
                best = number;
                bestRound = round;
                bestWaiting = waiting;
            }
        }

        /** Finds the PHASES' lengths; false if a number tells no PHASES. */
        private boolean arrange(int number) {
            phases = 0;
            for (int i = 0; i < STREAMS; i++) {
                lengths[i] = 0;
            }
            for (int i = 0; i < STREAMS; i++) {
                int phase = phaseOf(number, i);
                if (isTold(i) && phase <= phases && mayJoin(i, number)) {
                    phases = Math.max(phases, phase + 1);
                    lengths[phase] = Math.max(lengths[phase], needs[i]);
                } else if (isTold(i) || phase != 0) {
                    // A stream that is not told has PHASE 0 alone, or the same PHASES would come again.
                    return false;
                }
            }
            return true;
        }

        private boolean mayJoin(int stream, int number) {
            for (int i = 0; i < stream && isStream(stream); i++) {
                boolean same = isTold(i) && phaseOf(number, i) == phaseOf(number, stream);
                if (same && (mates[stream] >> i & 1) == 0) {
                    return false;
                }
            }
            return true;
        }

        private int round(int lost) {
            int sum = lost * phases;
            for (int i = 0; i < STREAMS; i++) {
                sum += lengths[i];
            }
            return sum;
        }

        private int waitingOf(int stream, int number, int round) {
            return isTold(stream) ? comes[stream] * (round - lengths[phaseOf(number, stream)]) : 0;
        }

        private static int phaseOf(int number, int stream) {
            return number >> 2 * stream & 3;
        }

        private static boolean isStream(int stream) {
            return stream >= 0 && stream < STREAMS;
        }
    }

    /** The CLASSES and the bills on which they vote. */
    private static final class House {
        private static final int MOST_CLASSES = 8;
        private static final int CLAUSES = 9;
        private static final int SETS = 512;

        private final int[] heads = new int[MOST_CLASSES];
        private final int[] leanings = new int[MOST_CLASSES * CLAUSES];
        /** For each set of CLAUSES the heads that vote yes; stale once a CLASS or a leaning is told. */
        private final int[] yes = new int[SETS];
        private final int[] sums = new int[SETS];
        private boolean stale;
        private int allHeads;
        int classes;

        int add(int number) {
            if (classes >= MOST_CLASSES) {
                return NONE;
            }
            heads[classes] = number;
            allHeads += number;
            classes++;
            stale = true;
            return classes - 1;
        }

        void lean(int voters, int clause, int n) {
            if (within(voters, 0, MOST_CLASSES - 1) && within(clause, 0, CLAUSES - 1)) {
                leanings[voters * CLAUSES + clause] = n;
                stale = true;
            }
        }

        boolean isCarried(int clauses) {
            return isMore(yesFor(clauses));
        }

        /** Goes through the sets from the greatest number down: of equal ones the first found stays. */
        int mostLeft(int clauses) {
            int best = NONE;
            int bestSize = NONE;
            int bestYes = 0;
            for (int set = SETS - 1; set >= 0; set--) {
                int size = Integer.bitCount(set);
                if ((set & ~clauses) == 0 && size >= bestSize) {
                    int votes = yesFor(set);
                    if (isMore(votes) && (size > bestSize || votes > bestYes)) {
                        best = set;
                        bestSize = size;
                        bestYes = votes;
                    }
                }
            }
            return best;
        }

        private boolean isMore(int votes) {
            return votes > allHeads - votes;
        }

        private int yesFor(int set) {
            if (stale) {
                poll();
                stale = false;
            }
            return set >= 0 && set < SETS ? yes[set] : 0;
        }

        private void poll() {
            Arrays.fill(yes, 0);
            for (int i = 0; i < classes && i < MOST_CLASSES; i++) {
                addUp(i);
                for (int set = 0; set < SETS; set++) {
                    if (sums[set] >= 0) {
                        yes[set] += heads[i];
                    }
                }
            }
        }

        /** What a CLASS's leanings come to for each set: a set's greatest CLAUSE and the set without it. */
        private void addUp(int voters) {
            sums[0] = 0;
            for (int clause = 0; clause < CLAUSES && voters < MOST_CLASSES; clause++) {
                int leaning = leanings[voters * CLAUSES + clause];
                int bit = 1 << clause;
                for (int set = 0; set < bit; set++) {
                    sums[bit + set] = sums[set] + leaning;
                }
            }
        }
    }

    /** The COUNTS. */
    private static final class Ledger {
        private static final int STREETS = 8;
        private static final int YEARS = LAST_YEAR + 1;

        private final int[] hurt = new int[STREETS * YEARS];
        private final int[] walked = new int[STREETS * YEARS];

        Ledger() {
            Arrays.fill(hurt, NONE);
        }

        void write(int street, int year, int hurtThen, int walkedThen) {
            int i = street * YEARS + year;
            if (i >= 0 && i < hurt.length && i < walked.length) {
                hurt[i] = hurtThen;
                walked[i] = walkedThen;
            }
        }

        int compare(int street, int y, int z) {
            int i = street * YEARS + y;
            int k = street * YEARS + z;
            if (!within(i, 0, hurt.length - 1) || !within(k, 0, hurt.length - 1)) {
                return NONE;
            }
            if (hurt[i] == NONE || hurt[k] == NONE) {
                return NONE;
            }
            if (hurt[k] >= hurt[i]) {
                return 0;
            }
            return (long) hurt[k] * walked[i] >= (long) hurt[i] * walked[k] ? 1 : 2;
        }
    }

    /** STREETS, TRIPS and the PLAN for them. */
    private static final class Town {
        private static final int STREETS = 8;
        private static final int PLACES = 8;
        private static final int MOST_TRIPS = 8;
        private static final int WAYS = 3;

        private final int[] ends = new int[STREETS * 2];
        private final int[] hurt = new int[STREETS * WAYS];
        private final int[] from = new int[MOST_TRIPS];
        private final int[] to = new int[MOST_TRIPS];
        /** For each set of streets, as bits, how many TRIPS they lead on their own. */
        private final int[] led = new int[1 << STREETS];
        /** For each place, as bits, the places to which it leads. */
        private final int[] group = new int[PLACES];
        /** The best plan for each number of LATE ones: its sum (NONE: no plan) and its number in threes. */
        private final int[] sums = new int[MOST_TRIPS + 1];
        private final int[] numbers = new int[MOST_TRIPS + 1];
        private boolean stale = true;
        /** The streets that are told, as bits. */
        int told;
        int trips;

        void lay(int street, int a, int b) {
            if (within(street, 0, STREETS - 1)) {
                ends[street * 2] = a;
                ends[street * 2 + 1] = b;
                told |= 1 << street;
                stale = true;
            }
        }

        void tellHurt(int street, int as, int slow, int closed) {
            if (within(street, 0, STREETS - 1)) {
                hurt[street * WAYS] = as;
                hurt[street * WAYS + 1] = slow;
                hurt[street * WAYS + 2] = closed;
                stale = true;
            }
        }

        int addTrip(int start, int goal) {
            if (trips >= MOST_TRIPS) {
                return NONE;
            }
            from[trips] = start;
            to[trips] = goal;
            trips++;
            stale = true;
            return trips - 1;
        }

        /** How many are LATE in the PLAN with so many at most; NONE without one. */
        int bestLate(int most) {
            if (stale) {
                findPlans();
                stale = false;
            }
            int best = NONE;
            for (int late = 0; late <= most && late < sums.length; late++) {
                if (sums[late] != NONE && (best == NONE || isBetter(late, best))) {
                    best = late;
                }
            }
            return best;
        }

        int sumWith(int late) {
            return late >= 0 && late < sums.length ? sums[late] : NONE;
        }

        int doneWith(int street, int late) {
            if (!isTold(street) || late < 0 || late >= numbers.length) {
                return NONE;
            }
            int number = numbers[late];
            for (int i = 0; i < street; i++) {
                number /= WAYS;
            }
            return number % WAYS;
        }

        private boolean isBetter(int a, int b) {
            int sumA = sumWith(a);
            int sumB = sumWith(b);
            return sumA < sumB
                || sumA == sumB && a < numbers.length && b < numbers.length && numbers[a] < numbers[b];
        }

        private void findPlans() {
            Arrays.fill(sums, NONE);
            for (int set = 0; set < led.length; set++) {
                if ((set & ~told) == 0) {
                    led[set] = tripsBy(set);
                }
            }
            decide(STREETS - 1, 0, 0, 0, 0);
        }

        /**
         * Tries all that can be done with a street and those below it; the ones above it are decided. The numbers
         * come upwards so: of equal plans the first stays.
         */
        private void decide(int street, int as, int open, int sum, int number) {
            if (street < 0 || street >= STREETS) {
                weigh(as, open, sum, number);
                return;
            }
            if (!isTold(street)) {
                decide(street - 1, as, open, sum, number * WAYS);
                return;
            }
            int bit = 1 << street;
            int h = street * WAYS;
            decide(street - 1, as | bit, open | bit, sum + hurt[h], number * WAYS);
            decide(street - 1, as, open | bit, sum + hurt[h + 1], number * WAYS + 1);
            decide(street - 1, as, open, sum + hurt[h + 2], number * WAYS + 2);
        }

        private void weigh(int as, int open, int sum, int number) {
            boolean sets = within(as, 0, led.length - 1) && within(open, 0, led.length - 1);
            if (!sets || led[open] < trips) {
                return;
            }
            int late = trips - led[as];
            if (late >= 0 && late < sums.length && (sums[late] == NONE || sum < sums[late])) {
                sums[late] = sum;
                numbers[late] = number;
            }
        }

        private int tripsBy(int set) {
            for (int place = 0; place < PLACES; place++) {
                group[place] = 1 << place;
            }
            for (int street = 0; street < STREETS; street++) {
                if ((set >> street & 1) != 0) {
                    join(ends[street * 2], ends[street * 2 + 1]);
                }
            }
            int n = 0;
            for (int i = 0; i < trips && i < MOST_TRIPS; i++) {
                if ((groupOf(from[i]) >> to[i] & 1) != 0) {
                    n++;
                }
            }
            return n;
        }

        private void join(int a, int b) {
            int both = groupOf(a) | groupOf(b);
            for (int place = 0; place < PLACES; place++) {
                if ((both >> place & 1) != 0) {
                    group[place] = both;
                }
            }
        }

        private int groupOf(int place) {
            return place >= 0 && place < PLACES ? group[place] : 0;
        }

        private boolean isTold(int street) {
            return street >= 0 && street < STREETS && (told >> street & 1) != 0;
        }
    }
}
