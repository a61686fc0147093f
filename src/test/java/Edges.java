/** What the tests of the document's sentences share. */
class Edges {
    static final int NONE = WhoseStreet.NONE;
    static final Checks CHECKS = new Checks();
    /** Far outside of every bound that the document names. */
    static final int[] FAR = {Integer.MIN_VALUE, Integer.MIN_VALUE + 1, Integer.MAX_VALUE - 1, Integer.MAX_VALUE};

    static void due(String what, long got, long want) {
        CHECKS.due(what, got, want);
    }

    static void yes(String what, boolean got) {
        CHECKS.due(what, got, true);
    }

    static void no(String what, boolean got) {
        CHECKS.due(what, got, false);
    }

    static void thrown(String what, WhoseStreet s, int meeting, int who, int t) {
        due(what, Checks.at(s, meeting, who, t), Checks.THROWN);
    }

    static void car(String what, WhoseStreet s, int meeting, int t, int x) {
        due(what, Checks.at(s, meeting, 0, t), x);
    }

    static void walker(String what, WhoseStreet s, int meeting, int t, int y) {
        due(what, Checks.at(s, meeting, 1, t), y);
    }

    /** A street with one MEETING: they MEET in SECOND 2, and the DRIVER SEES from SECOND 0 on. SIGNS: 3 alone. */
    static WhoseStreet withMeeting() {
        WhoseStreet s = new WhoseStreet();
        due("a MEETING to begin with", addMeeting(s, 0), s.count(2) - 1);
        return s;
    }

    static int addMeeting(WhoseStreet s, int looks) {
        return s.meeting(0, -200, 100, 5, -40, 20, looks);
    }
}
