/** The document's part 5, and promises 16 to 18: LIGHTS. */
final class CornerEdges extends Edges {
    /** Cars of which so many come. */
    private static void cars(WhoseStreet s, int stream, int green, int come) {
        yes("cars in stream " + stream, s.stream(stream, 0, 0, green, come));
    }

    private static void pair(WhoseStreet s, int a, int b) {
        yes(a + " with " + b, s.together(a, b, true));
    }

    private static void phases(String what, WhoseStreet s, int lost, int... due) {
        for (int stream = 0; stream < due.length; stream++) {
            due(what + ", stream " + stream, s.lights(lost, stream), due[stream]);
        }
    }

    /** The need of a stream that is told alone. */
    private static int need(int width, int slow, int green) {
        WhoseStreet s = new WhoseStreet();
        s.stream(0, width, slow, green, 1);
        return s.lights(0, 4);
    }

    @Sentence("LIGHTS. A corner has streams 0 to 3, of walkers or cars: each needs GREEN SECONDS (1 to 60), walkers the greater one of"
        + " that and WIDTH * 10 / SLOW, cut upwards (SLOW: 1 to 60 tenths of a metre a SECOND; nobody must run); so many come in a"
        + " ROUND (0 to 999).")
    static void whatAStreamNeeds() {
        due("cars, 1", need(0, 0, 1), 1);
        due("cars, 60", need(0, 0, 60), 60);
        due("cars, 0", need(0, 0, 0), NONE);
        due("cars, 61", need(0, 0, 61), NONE);
        due("walkers, 10 / 1", need(1, 1, 1), 10);
        due("walkers, 10 / 60, cut upwards", need(1, 60, 1), 1);
        due("walkers, 120 / 40", need(12, 40, 1), 3);
        due("walkers, 120 / 41, cut upwards", need(12, 41, 1), 3);
        due("walkers, 120 / 39, cut upwards", need(12, 39, 1), 4);
        due("walkers, GREEN is as much", need(12, 40, 3), 3);
        due("walkers, GREEN is greater", need(12, 40, 4), 4);
        due("walkers, GREEN 60", need(12, 40, 60), 60);
        due("walkers, more than 60", need(12, 2, 60), 60);
        due("walkers, 61", need(61, 10, 60), 61);
        due("walkers, 990 / 9", need(99, 9, 1), 110);
        due("SLOW 0", need(12, 0, 1), NONE);
        due("SLOW 61", need(12, 61, 1), NONE);
        WhoseStreet s = new WhoseStreet();
        cars(s, 0, 1, 0);
        cars(s, 1, 1, 999);
        due("nobody comes", s.lights(0, 6), 0);
        due("999 come", s.lights(0, 7), 999);
        no("-1 come", s.stream(1, 0, 0, 1, -1));
        no("1000 come", s.stream(1, 0, 0, 1, 1000));
        cars(s, 3, 1, 1);
        no("stream 4", s.stream(4, 0, 0, 1, 1));
        no("stream -1", s.stream(-1, 0, 0, 1, 1));
    }

    @Sentence("Two streams may go together if told so (not at first).")
    static void togetherIfToldSo() {
        for (int a = 0; a < 4; a++) {
            for (int b = 0; b < 4; b++) {
                if (a != b) {
                    WhoseStreet s = new WhoseStreet();
                    cars(s, a, 10, 1);
                    cars(s, b, 20, 1);
                    due("not at first", s.lights(0, 4), 30);
                    pair(s, a, b);
                    due("told so", s.lights(0, 4), 20);
                    yes("told otherwise, the other way about", s.together(b, a, false));
                    due("no more", s.lights(0, 4), 30);
                }
            }
        }
    }

    @Sentence("PHASES: 1 to 4 sets of streams that all may go together, each stream in just one; each PHASE's length is the longest need"
        + " of its streams.")
    static void oneToFourPhases() {
        WhoseStreet s = new WhoseStreet();
        int[] green = {10, 25, 20, 15};
        for (int i = 0; i < 4; i++) {
            cars(s, i, green[i], 1);
        }
        phases("4 PHASES", s, 0, 0, 1, 2, 3);
        due("4 lengths", s.lights(0, 4), 70);
        pair(s, 0, 1);
        pair(s, 1, 2);
        // 0, 1 and 2 can't go together: 0 may not with 2.
        phases("1 with 2", s, 0, 0, 1, 1, 2);
        due("3 lengths", s.lights(0, 4), 10 + 25 + 15);
        pair(s, 0, 2);
        phases("0, 1 and 2", s, 0, 0, 0, 0, 1);
        due("2 lengths", s.lights(0, 4), 25 + 15);
        pair(s, 0, 3);
        pair(s, 1, 3);
        phases("3 may not go with 2", s, 0, 0, 0, 0, 1);
        pair(s, 2, 3);
        phases("1 PHASE", s, 0, 0, 0, 0, 0);
        due("the longest", s.lights(0, 4), 25);
    }

    @Sentence("ROUND is the sum of the lengths and of LOST (0 to 9) for each PHASE (120 at most).")
    static void howLongARoundIs() {
        WhoseStreet s = new WhoseStreet();
        cars(s, 0, 60, 1);
        due("LOST 0", s.lights(0, 4), 60);
        due("LOST 9", s.lights(9, 4), 69);
        due("LOST -1", s.lights(-1, 4), NONE);
        due("LOST 10", s.lights(10, 4), NONE);
        cars(s, 1, 60, 1);
        due("120", s.lights(0, 4), 120);
        due("122", s.lights(1, 4), NONE);
        cars(s, 1, 58, 1);
        due("120 with LOST", s.lights(1, 4), 120);
        due("122 with LOST", s.lights(2, 4), NONE);
        cars(s, 1, 59, 1);
        due("119", s.lights(0, 4), 119);
        due("121 with LOST", s.lights(1, 4), NONE);
        s.stream(2, 99, 1, 1, 1);
        due("990 alone", s.lights(0, 4), NONE);
        WhoseStreet four = new WhoseStreet();
        for (int i = 0; i < 4; i++) {
            cars(four, i, 21, 1);
        }
        due("LOST for each of 4", four.lights(9, 4), 4 * 21 + 4 * 9);
        due("the best ROUND is too long: another one", shorterInstead(), 71);
    }

    /** 2 would wait least with 0 (130 - 70), but that ROUND is too long: so it waits for 0 and 1 together. */
    private static int shorterInstead() {
        WhoseStreet s = new WhoseStreet();
        s.stream(0, 70, 10, 1, 0);
        cars(s, 1, 60, 0);
        cars(s, 2, 1, 999);
        pair(s, 0, 1);
        pair(s, 0, 2);
        return s.lights(0, 4);
    }

    @Sentence("WAITING of a stream: so many * (ROUND - its PHASE's length).")
    static void howLongTheyWait() {
        WhoseStreet s = new WhoseStreet();
        cars(s, 0, 10, 999);
        due("alone nobody waits", s.lights(0, 6), 0);
        due("but for what is LOST", s.lights(9, 6), 999 * 9);
        cars(s, 1, 20, 3);
        cars(s, 2, 5, 7);
        pair(s, 1, 2);
        due("ROUND", s.lights(4, 4), 38);
        due("0", s.lights(4, 6), 999 * 28);
        due("1", s.lights(4, 7), 3 * 18);
        due("2 by its PHASE's length, not by its own need", s.lights(4, 8), 7 * 18);
        due("the sum", s.lights(4, 5), 999 * 28 + 10 * 18);
        WhoseStreet most = new WhoseStreet();
        for (int i = 0; i < 4; i++) {
            cars(most, i, 30, 999);
        }
        due("the most", most.lights(0, 5), 4 * 999 * 90);
    }

    @Sentence("BEST: the PHASES with the least sum of WAITING; of equal ones the shortest ROUND, then the least number that tells for"
        + " streams 3, 2, 1, 0 its PHASE as a digit of four (PHASES numbered by their first streams).")
    static void whichAreBest() {
        WhoseStreet s = new WhoseStreet();
        cars(s, 0, 60, 0);
        cars(s, 1, 50, 0);
        cars(s, 2, 1, 999);
        pair(s, 0, 1);
        pair(s, 0, 2);
        due("the least sum, not the shortest ROUND", s.lights(0, 4), 110);
        phases("2 with 0", s, 0, 0, 1, 0);
        cars(s, 2, 1, 0);
        due("of equal ones the shortest ROUND", s.lights(0, 4), 61);
        phases("0 with 1", s, 0, 0, 0, 1);
        cars(s, 2, 50, 0);
        due("of as short ones", s.lights(0, 4), 110);
        phases("0 1 0 is less than 1 0 0", s, 0, 0, 1, 0);
        WhoseStreet ring = new WhoseStreet();
        for (int i = 0; i < 4; i++) {
            cars(ring, i, 10, 5);
            pair(ring, i, (i + 1) % 4);
        }
        phases("0 1 1 0 is less than 1 1 0 0", ring, 0, 0, 1, 1, 0);
        WhoseStreet late = new WhoseStreet();
        cars(late, 1, 10, 1);
        cars(late, 3, 10, 1);
        phases("the first stream's PHASE is 0, the second one's 1", late, 0, NONE, 0, NONE, 1);
        leastNumberOfThree();
    }

    /** 3 may go with any of the others, which may not go with one another: the least number has it in PHASE 0. */
    private static void leastNumberOfThree() {
        WhoseStreet s = new WhoseStreet();
        for (int i = 0; i < 4; i++) {
            cars(s, i, 10, 1);
        }
        pair(s, 2, 3);
        phases("3 with 2", s, 0, 0, 1, 2, 2);
        pair(s, 1, 3);
        phases("3 with 1", s, 0, 0, 1, 2, 1);
        pair(s, 0, 3);
        phases("3 with 0", s, 0, 0, 1, 2, 0);
    }

    @Sentence("A stream: walkers (width 1 to 99 metres, SLOW) or cars (width 0), GREEN, how many come: true; false: others.")
    static void promise16() {
        WhoseStreet s = new WhoseStreet();
        yes("stream 0, width 0, GREEN 1, 0 come", s.stream(0, 0, 0, 1, 0));
        yes("stream 3, width 99, SLOW 60, GREEN 60, 999 come", s.stream(3, 99, 60, 60, 999));
        due("two are told", s.count(7), 2);
        yes("width 1, SLOW 1", s.stream(0, 1, 1, 1, 0));
        due("ROUND", s.lights(0, 4), 70);
        no("stream -1", s.stream(-1, 0, 0, 1, 0));
        no("stream 4", s.stream(4, 0, 0, 1, 0));
        no("width -1", s.stream(0, -1, 1, 1, 0));
        no("width 100", s.stream(0, 100, 60, 1, 0));
        no("SLOW 0 of walkers", s.stream(0, 1, 0, 1, 0));
        no("SLOW 61 of walkers", s.stream(0, 1, 61, 1, 0));
        no("GREEN 0", s.stream(0, 0, 0, 0, 0));
        no("GREEN 61", s.stream(0, 0, 0, 61, 0));
        no("GREEN 0 of walkers", s.stream(0, 1, 1, 0, 0));
        no("GREEN 61 of walkers", s.stream(0, 1, 1, 61, 0));
        no("-1 come", s.stream(0, 0, 0, 1, -1));
        no("1000 come", s.stream(0, 0, 0, 1, 1000));
        for (int n : FAR) {
            no("stream " + n, s.stream(n, 0, 0, 1, 0));
            no("width " + n, s.stream(0, n, 1, 1, 0));
            no("SLOW " + n, s.stream(0, 1, n, 1, 0));
            no("GREEN " + n, s.stream(0, 0, 0, n, 0));
            no("come " + n, s.stream(0, 0, 0, 1, n));
        }
        due("what is refused changes nothing", s.lights(0, 4), 70);
        due("and tells no stream", s.count(7), 2);
        yes("told anew", s.stream(0, 0, 0, 2, 1));
        due("the new one counts", s.lights(0, 4), 62);
    }

    @Sentence("Whether two streams may go together: true; false: none such, the same.")
    static void promise17() {
        WhoseStreet s = new WhoseStreet();
        yes("0 and 3", s.together(0, 3, true));
        yes("3 and 0", s.together(3, 0, false));
        for (int i = 0; i < 4; i++) {
            no("the same", s.together(i, i, true));
            no("-1", s.together(-1, i, true));
            no("-1 behind", s.together(i, -1, true));
            no("4", s.together(4, i, true));
            no("4 behind", s.together(i, 4, true));
            for (int n : FAR) {
                no(n + " and " + i, s.together(n, i, true));
                no(i + " and " + n, s.together(i, n, true));
            }
        }
        no("4 and 5", s.together(4, 5, true));
        cars(s, 0, 10, 1);
        cars(s, 3, 10, 1);
        due("what is refused changes nothing", s.lights(0, 4), 20);
        due("no stream is told by it", s.count(7), 2);
    }

    @Sentence("BEST with LOST for the streams that are told, what 0 to 3: the PHASE of a stream, 4: ROUND, 5: the sum of WAITING, 6 to 9:"
        + " WAITING of streams; NONE: no stream, no ROUND of 120 at most, a stream that is not told, others.")
    static void promise18() {
        WhoseStreet s = new WhoseStreet();
        for (int what = -1; what <= 10; what++) {
            due("no stream, what " + what, s.lights(0, what), NONE);
        }
        cars(s, 1, 10, 2);
        cars(s, 2, 20, 3);
        int[] told = {NONE, NONE, 0, 1, NONE, 34, 2 * 24 + 3 * 14, NONE, 2 * 24, 3 * 14, NONE, NONE};
        for (int what = -1; what <= 10; what++) {
            due("what " + what, s.lights(2, what), told[what + 1]);
            due("LOST -1, what " + what, s.lights(-1, what), NONE);
            due("LOST 10, what " + what, s.lights(10, what), NONE);
            for (int n : FAR) {
                due("LOST " + n, s.lights(n, what), NONE);
                due("what " + n, s.lights(0, n), NONE);
            }
        }
        cars(s, 3, 30, 4);
        pair(s, 1, 3);
        int[] three = {NONE, NONE, 0, 1, 0, 54, 2 * 24 + 3 * 34 + 4 * 24, NONE, 2 * 24, 3 * 34, 4 * 24, NONE};
        for (int what = -1; what <= 10; what++) {
            due("with stream 3, what " + what, s.lights(2, what), three[what + 1]);
        }
        s.stream(0, 99, 1, 1, 1);
        for (int what = -1; what <= 10; what++) {
            due("no ROUND of 120, what " + what, s.lights(2, what), NONE);
        }
        cars(s, 0, 10, 1);
        due("told anew", s.lights(2, 4), 66);
        due("stream 0 waits", s.lights(2, 6), 56);
    }
}
