/** The document's parts 7 and 8, and promises 23 to 28: COUNTS, STREETS, TRIPS and plans. */
final class StreetEdges extends Edges {
    private static void done(String what, WhoseStreet s, int late, int... due) {
        for (int street = 0; street < due.length; street++) {
            due(what + ", street " + street, s.plan(late, street), due[street]);
        }
    }

    @Sentence("COUNTS of a street (0 to 7) in a YEAR: hurt (0 to 9999) and walked (in thousands of steps, 0 to 99999), or missing.")
    static void countsThereCanBe() {
        WhoseStreet s = new WhoseStreet();
        yes("the most", s.counted(7, 0, 9999, 99999));
        yes("the least", s.counted(7, 30, 0, 0));
        due("both are there", s.fell(7, 0, 30), 1);
        no("hurt 10000", s.counted(7, 30, 10000, 0));
        no("hurt -2", s.counted(7, 30, -2, 0));
        no("walked 100000", s.counted(7, 30, 0, 100000));
        no("walked -1", s.counted(7, 30, 0, -1));
        no("YEAR 31", s.counted(7, 31, 0, 0));
        no("YEAR -1", s.counted(7, -1, 0, 0));
        no("street 8", s.counted(8, 0, 0, 0));
        no("street -1", s.counted(-1, 0, 0, 0));
        due("what is refused changes nothing", s.fell(7, 0, 30), 1);
        yes("missing", s.counted(7, 30, NONE, 0));
        due("one is missing", s.fell(7, 0, 30), NONE);
        for (int street = 0; street < 8; street++) {
            WhoseStreet one = new WhoseStreet();
            for (int year = 0; year <= 30; year++) {
                yes("each street in each YEAR", one.counted(street, year, 100 - year, 1));
            }
            for (int other = 0; other < 8; other++) {
                due("of street " + other, one.fell(other, 0, 30), other == street ? 2 : NONE);
            }
        }
    }

    @Sentence("FELL of a street over two YEARS y < z that are both there: 0 if hurt is not less in z than in y; else 1 if the RATE is not"
        + " less, that is if hurt z * walked y >= hurt y * walked z; else 2.")
    static void howItFell() {
        due("more", fell(10, 100, 11, 1), 0);
        due("as many", fell(10, 100, 10, 99999), 0);
        due("9 * 100 >= 10 * 90", fell(10, 100, 9, 90), 1);
        due("9 * 100 < 10 * 91", fell(10, 100, 9, 91), 2);
        due("9 * 100 >= 10 * 89", fell(10, 100, 9, 89), 1);
        due("nobody is hurt and nobody walks", fell(1, 1, 0, 0), 1);
        due("nobody is hurt and one walks", fell(1, 1, 0, 1), 2);
        due("nobody walked", fell(2, 0, 1, 0), 1);
        due("nobody walked then", fell(2, 0, 1, 1), 2);
        due("none to none", fell(0, 5, 0, 5), 0);
        // 9998 * 99999 is 999790002: more than 9999 * 99988, and less than 9999 * 99989 by 9.
        due("the greatest, not less", fell(9999, 99999, 9998, 99988), 1);
        due("the greatest, less", fell(9999, 99999, 9998, 99989), 2);
        WhoseStreet s = new WhoseStreet();
        s.counted(0, 4, 9, 9);
        s.counted(0, 5, 8, 9);
        due("z is behind y", s.fell(0, 4, 5), 2);
        due("y is behind z", s.fell(0, 5, 4), NONE);
        due("y is z", s.fell(0, 4, 4), NONE);
        due("z is missing", s.fell(0, 5, 6), NONE);
        due("y is missing", s.fell(0, 3, 4), NONE);
    }

    private static int fell(int hurtY, int walkedY, int hurtZ, int walkedZ) {
        WhoseStreet s = new WhoseStreet();
        yes("y", s.counted(3, 0, hurtY, walkedY));
        yes("z", s.counted(3, 30, hurtZ, walkedZ));
        return s.fell(3, 0, 30);
    }

    @Sentence("STREETS 0 to 7 go between two places (0 to 7 each, not the same), with HURT when left as they are, slow and closed (0 to 999"
        + " each).")
    static void streetsThereCanBe() {
        WhoseStreet s = new WhoseStreet();
        yes("the first", s.street(0, 0, 7, 999, 999, 999));
        yes("the last", s.street(7, 7, 0, 0, 0, 0));
        due("999", s.plan(0, 8), 999);
        no("street -1", s.street(-1, 0, 1, 0, 0, 0));
        no("street 8", s.street(8, 0, 1, 0, 0, 0));
        no("place -1", s.street(1, -1, 1, 0, 0, 0));
        no("place 8", s.street(1, 8, 1, 0, 0, 0));
        no("place -1 behind", s.street(1, 1, -1, 0, 0, 0));
        no("place 8 behind", s.street(1, 1, 8, 0, 0, 0));
        for (int place = 0; place < 8; place++) {
            no("the same", s.street(1, place, place, 0, 0, 0));
        }
        no("as it is -1", s.street(1, 0, 1, -1, 0, 0));
        no("as it is 1000", s.street(1, 0, 1, 1000, 0, 0));
        no("slow -1", s.street(1, 0, 1, 0, -1, 0));
        no("slow 1000", s.street(1, 0, 1, 0, 1000, 0));
        no("closed -1", s.street(1, 0, 1, 0, 0, -1));
        no("closed 1000", s.street(1, 0, 1, 0, 0, 1000));
        due("two are told", s.count(9), 2);
        s.street(0, 0, 7, 999, 998, 999);
        due("slow", s.plan(0, 0), 1);
        s.street(0, 0, 7, 999, 999, 998);
        due("closed", s.plan(0, 0), 2);
        s.street(0, 0, 7, 998, 999, 999);
        due("as it is", s.plan(0, 0), 0);
        WhoseStreet all = new WhoseStreet();
        for (int i = 0; i < 8; i++) {
            all.street(i, 0, 1, 999, 999, 999);
        }
        due("8 of the most", all.plan(0, 8), 8 * 999);
    }

    @Sentence("TRIPS, 8 at most, from a place to another one: it GOES if told streets that are not closed lead there (either way along"
        + " each); it is LATE if it GOES, but not by streets as they are alone.")
    static void whenATripGoes() {
        WhoseStreet s = new WhoseStreet();
        s.street(2, 3, 4, 9, 5, 1);
        due("no TRIP: closed", s.plan(0, 8), 1);
        due("a TRIP", s.trip(3, 4), 0);
        due("as it is", s.plan(0, 8), 9);
        due("not LATE", s.plan(0, 9), 0);
        due("slow", s.plan(1, 8), 5);
        due("LATE", s.plan(1, 9), 1);
        due("the other way", s.trip(4, 3), 1);
        due("it GOES as well", s.plan(0, 8), 9);
        due("both are LATE", s.plan(2, 9), 2);
        due("one may be LATE: none is", s.plan(1, 9), 0);
        // 4 to 5 by a street that is told from 5 to 4.
        s.street(6, 5, 4, 8, 0, 0);
        due("over two streets, the second one about", s.trip(3, 5), 2);
        due("one slow street on the way: LATE", s.plan(1, 9), 1);
        done("and so", s, 1, NONE, NONE, 0, NONE, NONE, NONE, 1, NONE);
        due("none LATE", s.plan(0, 8), 17);
        due("a place to which no street leads", s.trip(0, 1), 3);
        due("it does not GO", s.plan(8, 8), NONE);
        s.street(0, 1, 0, 0, 0, 0);
        due("a street that is told leads there", s.plan(8, 8), 5);
        for (int i = 4; i < 8; i++) {
            due("to 8", s.trip(0, 1), i);
        }
        due("a ninth", s.trip(0, 1), NONE);
        due("8 are there", s.count(10), 8);
        roundTheTown();
    }

    /** From place 0 to 7 over seven streets in a row, the longest way there is. */
    private static void roundTheTown() {
        WhoseStreet s = new WhoseStreet();
        for (int i = 0; i < 7; i++) {
            s.street(6 - i, i + 1, i, 1, 0, 0);
        }
        s.trip(7, 0);
        due("as they are", s.plan(0, 8), 7);
        due("one street is slow", s.plan(1, 8), 0);
        done("all are slow", s, 1, 1, 1, 1, 1, 1, 1, 1, NONE);
    }

    @Sentence("A PLAN: each street that is told as it is (0), slow (1) or closed (2), so that all TRIPS GO and LATE ones are told so many at"
        + " most: the least sum of HURT; of equal ones the least number in threes (street 0 lowest).")
    static void whichPlan() {
        WhoseStreet s = new WhoseStreet();
        s.street(0, 0, 1, 5, 5, 5);
        s.street(7, 0, 1, 5, 5, 5);
        done("equal: as they are", s, 8, 0, NONE, NONE, NONE, NONE, NONE, NONE, 0);
        // One of two must be open: street 7 counts for more, so it is as it is.
        s.street(0, 0, 1, 6, 6, 5);
        s.street(7, 0, 1, 6, 6, 5);
        s.trip(1, 0);
        done("the least number", s, 8, 2, NONE, NONE, NONE, NONE, NONE, NONE, 0);
        due("the least sum", s.plan(8, 8), 11);
        s.street(7, 0, 1, 6, 5, 5);
        done("slow at a lesser sum: LATE", s, 1, 2, NONE, NONE, NONE, NONE, NONE, NONE, 1);
        due("so many at most", s.plan(1, 9), 1);
        // Street 0 as it is with street 7 slow comes to 11 too, but has the greater number.
        done("none LATE", s, 0, 2, NONE, NONE, NONE, NONE, NONE, NONE, 0);
        due("its sum", s.plan(0, 8), 11);
        // Equal sums with and without a LATE one: the least number, whether LATE or not.
        s.street(7, 0, 1, 6, 5, 6);
        s.street(0, 0, 1, 5, 6, 6);
        due("none needs be LATE", s.plan(8, 9), 0);
        done("as it is, and slow", s, 8, 0, NONE, NONE, NONE, NONE, NONE, NONE, 1);
        lateOrNot();
        eightAtMost();
    }

    /** Plans with a LATE TRIP and without one, by their sums and, where those are equal, by their numbers. */
    private static void lateOrNot() {
        WhoseStreet s = new WhoseStreet();
        s.street(0, 0, 1, 9, 9, 3);
        s.street(1, 0, 1, 9, 3, 9);
        s.street(2, 0, 1, 3, 3, 0);
        s.trip(0, 1);
        // Slow street 1: 3 + 3 + 0, LATE, number 2 + 3 + 18 = 23. Street 2 as it is: 3 + 3 + 3.
        due("LATE is cheaper", s.plan(1, 8), 6);
        done("LATE", s, 1, 2, 1, 2);
        due("not LATE", s.plan(0, 8), 9);
        done("not LATE", s, 0, 2, 1, 0);
        s.street(2, 0, 1, 0, 0, 0);
        due("as cheap and not LATE", s.plan(1, 9), 0);
        s.street(2, 0, 1, 3, 0, 0);
        // Street 1 slow, street 2 slow (number 2 + 3 + 9) or closed (2 + 3 + 18).
        done("the least number of two LATE ones", s, 1, 2, 1, 1);
        s.street(0, 0, 1, 0, 9, 9);
        s.street(1, 0, 1, 1, 0, 0);
        // Street 0 as it is at 0: then all go by it, and the others are slow at 0.
        done("as it is where that is the least number", s, 1, 0, 1, 1);
        WhoseStreet late = new WhoseStreet();
        late.street(0, 0, 1, 5, 9, 3);
        late.street(1, 0, 1, 9, 3, 1);
        late.trip(0, 1);
        // Street 0 as it is and 1 closed: 5 + 1, number 6. Street 0 closed and 1 slow: 3 + 3, number 5, LATE.
        done("equal sums, LATE by the lesser number", late, 1, 2, 1);
        due("LATE", late.plan(8, 9), 1);
        due("the sum", late.plan(8, 8), 6);
        done("equal sums, not LATE", late, 0, 0, 2);
        due("as much", late.plan(0, 8), 6);
        // Street 0 closed and 1 as it is: 1 + 5, number 2. Street 0 slow and 1 closed: 3 + 3, number 7, LATE.
        late.street(0, 0, 1, 9, 3, 1);
        late.street(1, 0, 1, 5, 9, 3);
        done("equal sums, not LATE by the lesser number", late, 8, 2, 0);
        due("not LATE", late.plan(8, 9), 0);
    }

    private static void eightAtMost() {
        WhoseStreet s = new WhoseStreet();
        for (int i = 0; i < 8; i++) {
            s.street(i, i, (i + 1) % 8, 10, 2, 1);
            s.trip(i, (i + 1) % 8);
        }
        for (int late = 0; late <= 8; late++) {
            // One street can be closed; its own TRIP is LATE unless all others are as they are.
            int sum = late == 0 ? 71 : 1 + 2 * (late - 1) + 10 * (8 - late);
            due("LATE ones at most " + late + ", the sum", s.plan(late, 8), sum);
            due("LATE ones", s.plan(late, 9), late == 1 ? 0 : late);
        }
        for (int i = 0; i < 8; i++) {
            s.street(i, i, (i + 1) % 8, 1, 2, 2);
        }
        done("all 8 as they are", s, 8, 0, 0, 0, 0, 0, 0, 0, 0);
        due("their sum", s.plan(8, 8), 8);
        for (int i = 0; i < 8; i++) {
            s.street(i, i, (i + 1) % 8, 2, 1, 2);
        }
        done("all 8 slow", s, 8, 1, 1, 1, 1, 1, 1, 1, 1);
        due("all LATE", s.plan(8, 9), 8);
    }

    @Sentence("A COUNT of a street in a YEAR (hurt NONE: missing, walked of no matter then): true; false: others.")
    static void promise23() {
        WhoseStreet s = new WhoseStreet();
        yes("the first street and YEAR", s.counted(0, 0, 0, 0));
        yes("the last", s.counted(7, 30, 9999, 99999));
        for (int walked : new int[] {-1, 0, 99999, 100000, Integer.MIN_VALUE, Integer.MAX_VALUE}) {
            yes("missing, walked " + walked, s.counted(0, 1, NONE, walked));
            no("missing in YEAR 31", s.counted(0, 31, NONE, walked));
            no("missing in YEAR -1", s.counted(0, -1, NONE, walked));
            no("missing of street 8", s.counted(8, 1, NONE, walked));
            no("missing of street -1", s.counted(-1, 1, NONE, walked));
        }
        due("it is missing", s.fell(0, 0, 1), NONE);
        yes("there", s.counted(0, 1, 0, 0));
        due("it is there", s.fell(0, 0, 1), 0);
        no("hurt -2", s.counted(0, 1, -2, 0));
        no("hurt 10000", s.counted(0, 1, 10000, 0));
        no("walked -1", s.counted(0, 1, 0, -1));
        no("walked 100000", s.counted(0, 1, 0, 100000));
        for (int n : FAR) {
            no("street " + n, s.counted(n, 1, NONE, 0));
            no("YEAR " + n, s.counted(0, n, NONE, 0));
            no("hurt " + n, s.counted(0, 1, n, 0));
            no("walked " + n, s.counted(0, 1, 1, n));
        }
        due("what is refused changes nothing", s.fell(0, 0, 1), 0);
        yes("told anew", s.counted(0, 0, 5, 5));
        due("the new one counts", s.fell(0, 0, 1), 1);
        yes("missing anew", s.counted(0, 0, NONE, 5));
        due("it is missing anew", s.fell(0, 0, 1), NONE);
    }

    @Sentence("FELL; NONE: no such street, YEARS, one missing.")
    static void promise24() {
        WhoseStreet s = new WhoseStreet();
        for (int street = 0; street < 8; street++) {
            for (int year = 0; year <= 30; year++) {
                s.counted(street, year, 100 - year, 1);
            }
        }
        for (int street = 0; street < 8; street++) {
            due("YEARS 0 and 30", s.fell(street, 0, 30), 2);
            due("YEARS -1 and 0", s.fell(street, -1, 0), NONE);
            due("YEARS 30 and 31", s.fell(street, 30, 31), NONE);
            due("YEARS 0 and 31", s.fell(street, 0, 31), NONE);
            due("YEARS 30 and 0", s.fell(street, 30, 0), NONE);
            due("YEARS 7 and 7", s.fell(street, 7, 7), NONE);
            for (int year : FAR) {
                due("y " + year, s.fell(street, year, 30), NONE);
                due("z " + year, s.fell(street, 0, year), NONE);
                due("street " + year, s.fell(year, 0, 30), NONE);
            }
        }
        due("street -1", s.fell(-1, 0, 30), NONE);
        due("street 8", s.fell(8, 0, 30), NONE);
        s.counted(0, 0, NONE, 0);
        due("y missing", s.fell(0, 0, 30), NONE);
        s.counted(1, 30, NONE, 0);
        due("z missing", s.fell(1, 0, 30), NONE);
    }

    @Sentence("A street's places and HURT: true; false: others.")
    static void promise25() {
        WhoseStreet s = new WhoseStreet();
        yes("a street", s.street(3, 0, 7, 4, 5, 6));
        no("the same place", s.street(3, 7, 7, 1, 1, 1));
        no("place 8", s.street(3, 8, 7, 1, 1, 1));
        no("HURT 1000", s.street(3, 0, 7, 1000, 1, 1));
        for (int n : FAR) {
            no("street " + n, s.street(n, 0, 7, 1, 1, 1));
            no("place " + n, s.street(3, n, 7, 1, 1, 1));
            no("place behind " + n, s.street(3, 0, n, 1, 1, 1));
            no("as it is " + n, s.street(3, 0, 7, n, 1, 1));
            no("slow " + n, s.street(3, 0, 7, 1, n, 1));
            no("closed " + n, s.street(3, 0, 7, 1, 1, n));
        }
        due("what is refused changes nothing", s.plan(0, 8), 4);
        due("one is told", s.count(9), 1);
        s.trip(0, 7);
        due("its places", s.plan(0, 8), 4);
        yes("told anew with other places", s.street(3, 1, 2, 4, 5, 6));
        due("the TRIP does not GO any more", s.plan(0, 8), NONE);
        due("one is told still", s.count(9), 1);
        for (int street = 0; street < 8; street++) {
            yes("all of them", s.street(street, 0, 7, 0, 0, 0));
        }
        due("8 are told", s.count(9), 8);
    }

    @Sentence("A TRIP: its number; NONE: no such places, the same, 8 are there.")
    static void promise26() {
        WhoseStreet s = new WhoseStreet();
        for (int place = 0; place < 8; place++) {
            due("the same", s.trip(place, place), NONE);
            due("place -1", s.trip(-1, place), NONE);
            due("place 8", s.trip(8, place), NONE);
            due("place -1 behind", s.trip(place, -1), NONE);
            due("place 8 behind", s.trip(place, 8), NONE);
            for (int n : FAR) {
                due("place " + n, s.trip(n, place), NONE);
                due("place behind " + n, s.trip(place, n), NONE);
            }
        }
        due("what is refused is not told", s.count(10), 0);
        due("so all GO", s.plan(0, 8), 0);
        for (int i = 0; i < 8; i++) {
            due("its number", s.trip(i, 7 - i), i);
            due("so many", s.count(10), i + 1);
        }
        due("8 are there", s.trip(0, 7), NONE);
        due("8 stay", s.count(10), 8);
    }

    @Sentence("A PLAN with so many LATE ones at most (0 to 8), what 0 to 7: what is done with a street, 8: the sum of HURT, 9: how many are"
        + " LATE; NONE: no PLAN, a street that is not told, others.")
    static void promise27() {
        WhoseStreet s = new WhoseStreet();
        due("no street, the sum", s.plan(0, 8), 0);
        due("no street, LATE ones", s.plan(8, 9), 0);
        s.street(0, 0, 1, 3, 2, 1);
        s.street(7, 1, 2, 3, 2, 1);
        s.trip(2, 0);
        int[] none = {NONE, 0, NONE, NONE, NONE, NONE, NONE, NONE, 0, 6, 0, NONE};
        int[] one = {NONE, 1, NONE, NONE, NONE, NONE, NONE, NONE, 1, 4, 1, NONE};
        for (int what = -1; what <= 10; what++) {
            due("none LATE, what " + what, s.plan(0, what), none[what + 1]);
            due("one LATE, what " + what, s.plan(1, what), one[what + 1]);
            due("8 LATE, what " + what, s.plan(8, what), one[what + 1]);
            due("-1 LATE, what " + what, s.plan(-1, what), NONE);
            due("9 LATE, what " + what, s.plan(9, what), NONE);
            for (int n : FAR) {
                due("LATE " + n, s.plan(n, what), NONE);
                due("what " + n, s.plan(0, n), NONE);
            }
        }
        s.trip(0, 7);
        for (int what = -1; what <= 10; what++) {
            due("no PLAN, what " + what, s.plan(8, what), NONE);
        }
    }

    @Sentence("What 0: NOW, 1: THE VIEW, 2: MEETINGS, 3: BY-LAWS, 4: RULINGS, 5: those by THE VIEW, 6: signs on the TAPE, 7: streams, 8:"
        + " CLASSES, 9: streets, 10: TRIPS, 11: MEETINGS in which they MET. NONE for another what.")
    static void promise28() {
        WhoseStreet s = withMeeting();
        addMeeting(s, 1);
        s.ruling(0, true);
        s.years(4);
        for (int i = 0; i < 3; i++) {
            s.ruling(1, false);
        }
        s.view(3);
        for (int i = 0; i < 5; i++) {
            Checks.law(s, "let a = 1 ;", i);
        }
        Checks.feed(s, "sevenab");
        for (int i = 0; i < 4; i++) {
            s.stream(3 - i, 0, 0, 1, 1);
        }
        for (int i = 0; i < 8; i++) {
            s.voters(1);
            s.trip(0, 1);
        }
        for (int i = 2; i < 8; i++) {
            s.street(i, 0, 1, 0, 0, 0);
        }
        int[] due = {4, 3, 2, 5, 4, 1, 7, 4, 8, 6, 8, 1};
        for (int what = 0; what < due.length; what++) {
            due("what " + what, s.count(what), due[what]);
        }
        due("what -1", s.count(-1), NONE);
        due("what 12", s.count(12), NONE);
        for (int what : FAR) {
            due("what " + what, s.count(what), NONE);
        }
        s.stand(0, 0, 0, 0, 50);
        due("told anew it is the same", s.count(11), 1);
        s.meeting(0, -1, 1, 5, -1, 1, 0);
        due("one more in which they MET", s.count(11), 2);
    }
}
