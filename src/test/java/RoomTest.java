import java.lang.management.ManagementFactory;

/**
 * What an object and its calls make. All calls of one run live in one room of some 7.3 million fields and elements:
 * rows are made with the object, and a call makes nothing but what it keeps.
 */
public final class RoomTest {
    private static final Checks CHECKS = new Checks();
    private static final com.sun.management.ThreadMXBean THREAD =
        (com.sun.management.ThreadMXBean) ManagementFactory.getThreadMXBean();
    private static final int CALLS = 512;
    private static final int OBJECT = 20_000;
    private static final int MEETING = 120;
    /** A number for each of the TAPE's signs, and the objects that hold them. */
    private static final int LAW = 4 * 1000 + 100;
    /** An exception and the trace of where it came from. */
    private static final int EXCEPTION = 2_000;
    /** What the machine itself may make once, however many calls there are. */
    private static final int SLACK = 1_000;

    private static boolean looking;

    interface Call {
        void on(WhoseStreet s, int i);
    }

    public static void main(String[] args) {
        measure();
        // The first time classes were loaded, which makes objects of its own: only the second time is looked at.
        looking = true;
        measure();
        CHECKS.end();
    }

    private static void measure() {
        long before = THREAD.getCurrentThreadAllocatedBytes();
        WhoseStreet s = new WhoseStreet();
        look("a new object", before, OBJECT);
        told(s);
        CHECKS.due("MEETINGS are there", s.count(2), 40);
        CHECKS.due("BY-LAWS are there", s.count(3), CALLS / 42);
        CHECKS.due("RULINGS are there", s.count(4), 80);
        CHECKS.due("TRIPS are there", s.count(10), 8);
        asked(s);
        calls("at, thrown", s, 0, EXCEPTION, (o, i) -> Checks.at(o, i + 40, 0, 0));
    }

    private static void told(WhoseStreet s) {
        calls("meeting", s, 40, MEETING, (o, i) -> o.meeting(0, -9999, 300, 5, -999, 1 + i % 60, i % 6));
        calls("stand", s, 0, 0, (o, i) -> o.stand(i % 40, -1 - i, -1 - i, i % 3, i % 100));
        calls("ruling", s, 0, 0, (o, i) -> o.ruling(i % 40, i % 2 == 0));
        calls("years", s, 0, 0, (o, i) -> o.years(i % 2));
        calls("view", s, 0, 0, (o, i) -> o.view(i % 31));
        calls("feed and law", s, 16, LAW, RoomTest::feedAndLaw);
        calls("stream", s, 0, 0, (o, i) -> o.stream(i % 4, i % 20, 30, 1 + i % 30, i));
        calls("together", s, 0, 0, (o, i) -> o.together(i % 4, i / 4 % 4, i % 3 > 0));
        calls("voters", s, 0, 0, (o, i) -> o.voters(1 + i));
        calls("leans", s, 0, 0, (o, i) -> o.leans(i % 8, i % 9, i % 100 - 50));
        calls("counted", s, 0, 0, (o, i) -> o.counted(i % 8, i % 31, i, i));
        calls("street", s, 0, 0, (o, i) -> o.street(i % 8, i % 8, (i + 1) % 8, i, i / 2, i / 3));
        calls("trip", s, 0, 0, (o, i) -> o.trip(i % 8, (i + 3) % 8));
    }

    private static void asked(WhoseStreet s) {
        calls("look", s, 0, 0, (o, i) -> o.look(i % 41, i % 8));
        calls("at", s, 0, 0, (o, i) -> o.at(i % 40, i % 2, 0));
        calls("whose", s, 0, 0, (o, i) -> o.whose(i % 41, i % 32, i % 5));
        calls("changes", s, 0, 0, (o, i) -> o.changes(i % 41, i % 3));
        calls("customs", s, 0, 0, (o, i) -> o.customs(i % 32));
        calls("held", s, 0, 0, (o, i) -> o.held(i % 41, i % 32));
        calls("since", s, 0, 0, (o, i) -> o.since(i % 17));
        calls("lights", s, 0, 0, (o, i) -> o.lights(i % 10, i % 11));
        calls("passes", s, 0, 0, (o, i) -> o.passes(i));
        calls("most", s, 0, 0, RoomTest::leanAndMost);
        calls("fell", s, 0, 0, (o, i) -> o.fell(i % 8, i % 30, i % 30 + 1));
        calls("plan", s, 0, 0, (o, i) -> o.plan(i % 9, i % 11));
        calls("count", s, 0, 0, (o, i) -> o.count(i % 13));
    }

    /** 41 calls write a BY-LAW nearly as long as the TAPE, and the 42nd reads it. */
    private static void feedAndLaw(WhoseStreet s, int i) {
        int step = i % 42;
        if (step == 41) {
            s.law(i % 31);
        } else if (step == 40) {
            // "1;"
            s.feed(0x313b_0000_0000_0000L, 0, 0);
        } else if (step == 0) {
            // "fault both when 1+1+1+1+"
            s.feed(0x6661_756c_7420_626fL, 0x7468_2077_6865_6e20L, 0x312b_312b_312b_312bL);
        } else {
            s.feed(0x312b_312b_312b_312bL, 0x312b_312b_312b_312bL, 0x312b_312b_312b_312bL);
        }
    }

    /** Each time the votes must be taken anew. */
    private static void leanAndMost(WhoseStreet s, int i) {
        s.leans(i % 8, i % 9, i % 7 - 3);
        s.most(511);
    }

    /** 512 calls, of which the first so many may make something that is kept; 0: each may make so much. */
    private static void calls(String name, WhoseStreet s, int keeping, int each, Call call) {
        long before = THREAD.getCurrentThreadAllocatedBytes();
        for (int i = 0; i < CALLS; i++) {
            call.on(s, i);
        }
        look(name, before, (long) (keeping == 0 ? CALLS : keeping) * each + SLACK);
    }

    private static void look(String name, long before, long most) {
        long made = THREAD.getCurrentThreadAllocatedBytes() - before;
        if (looking) {
            CHECKS.due(name + " made " + made + " bytes, at most " + most, made <= most, true);
        }
    }
}
