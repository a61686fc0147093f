/** The document's part 1 and 2, and promises 1 to 7: YEARS, THE VIEW and MEETINGS. */
final class MeetingEdges extends Edges {
    @Sentence("An object is used for at most 512 calls after it has been made; what later calls answer is free.")
    static void the512thCallStillAnswers() {
        WhoseStreet s = new WhoseStreet();
        for (int i = 1; i <= 510; i++) {
            s.counted(i % 8, i % 31, i, i);
        }
        due("the 511th call", s.meeting(0, -1, 1, 0, -1, 1, 0), 0);
        due("the 512th call", s.count(2), 1);
    }

    @Sentence("The constants: `NONE = -1`: None.")
    static void noneIsMinus1() {
        due("NONE", WhoseStreet.NONE, -1);
    }

    @Sentence("YEARS are 0 to 30; NOW is one, 0 at first.")
    static void yearsAre0To30() {
        WhoseStreet s = new WhoseStreet();
        due("NOW at first", s.count(0), 0);
        due("YEAR 0 is one", s.customs(0), 128);
        due("YEAR 30 is one", s.customs(30), 128);
        due("YEAR -1 is none", s.customs(-1), NONE);
        due("YEAR 31 is none", s.customs(31), NONE);
        due("to 29", s.years(29), 29);
        due("to the last one", s.years(1), 30);
        due("NOW is the last one", s.count(0), 30);
        due("not further", s.years(1), NONE);
        due("NOW is the last one still", s.count(0), 30);
    }

    @Sentence("THE VIEW is a YEAR: BY-LAWS and RULINGS told in it or ahead.")
    static void theViewHoldsWhatWasToldInItOrAhead() {
        WhoseStreet s = withMeeting();
        due("without BY-LAWS", s.whose(0, 30, 3), NONE);
        for (int year = 0; year <= 3; year++) {
            due("a BY-LAW of the YEAR " + year, Checks.law(s, "fault both when 1 ;", 0), 0);
            yes("a RULING of it", s.ruling(0, true));
            s.years(1);
        }
        for (int year = 0; year <= 3; year++) {
            yes("THE VIEW " + year, s.view(year));
            due("the BY-LAW told in it", s.whose(0, 30, 3), year);
            due("the RULINGS told in it or ahead", s.count(5), year + 1);
        }
    }

    @Sentence("It is NOW until another one is told, and NOW again if that is told.")
    static void theViewGoesWithNow() {
        WhoseStreet s = new WhoseStreet();
        due("NOW at first", s.count(1), 0);
        s.years(3);
        due("NOW as YEARS pass", s.count(1), 3);
        s.view(2);
        due("another one", s.count(1), 2);
        s.years(4);
        due("it stays", s.count(1), 2);
        s.view(7);
        due("NOW is told", s.count(1), 7);
        s.years(23);
        due("it goes with NOW again", s.count(1), 30);
        WhoseStreet first = new WhoseStreet();
        first.view(0);
        first.years(1);
        due("NOW told at first is not another one", first.count(1), 1);
    }

    @Sentence("All else is as it is.")
    static void theViewHidesNothingElse() {
        WhoseStreet s = new WhoseStreet();
        s.years(5);
        s.meeting(5, -200, 100, 5, -40, 20, 0);
        Checks.law(s, "fault both when 1 ;", 0);
        s.ruling(0, true);
        s.counted(0, 4, 9, 1);
        s.counted(0, 5, 8, 1);
        s.view(0);
        due("NOW", s.count(0), 5);
        due("MEETINGS", s.count(2), 1);
        due("a MEETING of a YEAR behind THE VIEW", s.look(0, 0), 2);
        due("one more of NOW", s.meeting(5, -200, 100, 5, -40, 20, 0), 1);
        due("all BY-LAWS", s.count(3), 1);
        due("all RULINGS", s.count(4), 1);
        due("COUNTS behind THE VIEW", s.fell(0, 4, 5), 2);
        yes("a RULING is told NOW, not in THE VIEW", s.ruling(0, true));
        due("so it is not in THE VIEW", s.count(5), 0);
        due("a BY-LAW is told NOW, too", Checks.law(s, "fault both when 1 ;", 0), 0);
        due("so it is not in THE VIEW either", s.whose(0, 30, 3), NONE);
        s.view(5);
        due("the RULINGS are there", s.count(5), 2);
        due("the BY-LAWS are there", s.whose(0, 30, 3), 1);
    }

    @Sentence("A MEETING, 40 at most, told with a YEAR (to NOW): a CAR on a straight street and a WALKER who crosses it.")
    static void fortyMeetingsToNow() {
        WhoseStreet s = new WhoseStreet();
        s.years(3);
        due("a YEAR behind NOW", s.meeting(4, -100, 50, 0, -50, 10, 0), NONE);
        for (int i = 0; i < 40; i++) {
            due("a YEAR to NOW", s.meeting(i % 4, -100, 50, 0, -50, 10, 0), i);
        }
        due("a 41st", s.meeting(3, -100, 50, 0, -50, 10, 0), NONE);
        due("40 are there", s.count(2), 40);
        car("the last one", s, 39, 0, -100);
        thrown("none behind it", s, 40, 0, 0);
    }

    @Sentence("Lengths are tenths of a metre, SECONDS are 0 to 60.")
    static void secondsAre0To60() {
        WhoseStreet s = new WhoseStreet();
        s.meeting(0, -9999, 10, 5, -999, 2, 0);
        s.stand(0, -1, -1, 0, 50);
        car("SECOND 0", s, 0, 0, -9999);
        car("SECOND 60", s, 0, 60, -9999 + 600);
        walker("SECOND 60 of the WALKER", s, 0, 60, -999 + 120);
        thrown("SECOND -1", s, 0, 0, -1);
        thrown("SECOND 61", s, 0, 0, 61);
        thrown("SECOND 61 of the WALKER", s, 0, 1, 61);
    }

    @Sentence("The CAR's front is at x from (-9999 to -1) in SECOND 0 and goes SPEED (1 to 300) a SECOND towards greater x;"
        + " the WALKER is at y from (-999 to -1) and goes PACE (1 to 60) a SECOND towards greater y.")
    static void whereTheyBeginAndHowTheyGo() {
        WhoseStreet s = new WhoseStreet();
        due("the farthest and fastest", s.meeting(0, -9999, 300, 5, -999, 60, 0), 0);
        car("the farthest in SECOND 0", s, 0, 0, -9999);
        car("the fastest", s, 0, 1, -9699);
        walker("the farthest WALKER in SECOND 0", s, 0, 0, -999);
        walker("the fastest WALKER", s, 0, 1, -939);
        due("the nearest and slowest CAR", s.meeting(0, -1, 1, 5, -999, 1, 0), 1);
        car("the nearest in SECOND 0", s, 1, 0, -1);
        car("the slowest", s, 1, 1, 0);
        due("the nearest and slowest WALKER", s.meeting(0, -9999, 1, 5, -1, 1, 0), 2);
        walker("the nearest WALKER in SECOND 0", s, 2, 0, -1);
        walker("the slowest WALKER", s, 2, 1, 0);
        due("x -10000", s.meeting(0, -10000, 300, 5, -999, 60, 0), NONE);
        due("x 0", s.meeting(0, 0, 300, 5, -999, 60, 0), NONE);
        due("SPEED 0", s.meeting(0, -1, 0, 5, -999, 60, 0), NONE);
        due("SPEED 301", s.meeting(0, -1, 301, 5, -999, 60, 0), NONE);
        due("y -1000", s.meeting(0, -1, 300, 5, -1000, 60, 0), NONE);
        due("y 0", s.meeting(0, -1, 300, 5, 0, 60, 0), NONE);
        due("PACE 0", s.meeting(0, -1, 300, 5, -1, 0, 0), NONE);
        due("PACE 61", s.meeting(0, -1, 300, 5, -1, 61, 0), NONE);
    }

    @Sentence("HIDDEN: a STAND (none, or something parked) has its corner at x sx (-9999 to -1), y sy (-999 to -1): what is"
        + " parked fills all places that have not more than sx and not more than sy.")
    static void whereAStandCanBe() {
        WhoseStreet s = withMeeting();
        yes("the farthest", s.stand(0, -9999, -999, 0, 50));
        due("it is a STAND", s.look(0, 5), 8 | 32);
        yes("none", s.stand(0, 0, 0, 0, 50));
        due("it is none", s.look(0, 5), 8);
        yes("the nearest", s.stand(0, -1, -1, 0, 50));
        due("it is a STAND, too", s.look(0, 5), 32);
        no("sx -10000", s.stand(0, -10000, -1, 0, 50));
        no("sx 1", s.stand(0, 1, -1, 0, 50));
        no("sy -1000", s.stand(0, -1, -1000, 0, 50));
        no("sy 0", s.stand(0, -1, 0, 0, 50));
        due("what is refused changes nothing", s.look(0, 5), 32);
    }

    @Sentence("The CAR at x and the WALKER at y don't see one another if x < sx, y < sy and sx * y + sy * x <= x * y"
        + " (the straight line between them goes through it).")
    static void whatAStandHides() {
        WhoseStreet s = new WhoseStreet();
        s.meeting(0, -100, 1, 5, -100, 1, 0);
        s.stand(0, -100, -1, 0, 50);
        due("x is sx", s.look(0, 1), 0);
        s.stand(0, -99, -1, 0, 50);
        due("x is below sx until SECOND 1", s.look(0, 1), 1);
        s.stand(0, -1, -100, 0, 50);
        due("y is sy", s.look(0, 1), 0);
        s.stand(0, -1, -99, 0, 50);
        due("y is below sy until SECOND 1", s.look(0, 1), 1);
        // 51 * 100 + 50 * 100 is more than 100 * 100.
        s.stand(0, -51, -50, 0, 50);
        due("the line goes by", s.look(0, 1), 0);
        // 50 * 100 + 50 * 100 is 100 * 100; in SECOND 1, 50 * 99 + 50 * 99 is more than 99 * 99.
        s.stand(0, -50, -50, 0, 50);
        due("the line goes through the corner", s.look(0, 1), 1);
        // In SECOND 1, 49 * 99 + 50 * 99 is 99 * 99.
        s.stand(0, -49, -50, 0, 50);
        due("the line goes through it in SECOND 1, too", s.look(0, 1), 2);
        s.stand(0, -50, -49, 0, 50);
        due("and so the other way about", s.look(0, 1), 2);
        // The greatest numbers: 1 * 999 + 1 * 9999 is far below 9999 * 999.
        s.meeting(0, -9999, 300, 5, -999, 60, 0);
        s.stand(1, -1, -1, 0, 50);
        due("hidden to the end", s.look(1, 1), NONE);
    }

    @Sentence("FLOOR: 0 dry, 1 wet, 2 ice: the CAR's BRAKE is 60, 35, 10 a SECOND.")
    static void howItBrakes() {
        WhoseStreet s = new WhoseStreet();
        s.meeting(0, -9999, 300, 0, -999, 1, 0);
        yes("dry", s.stand(0, 0, 0, 0, 50));
        car("dry, 240", s, 0, 1, -9759);
        due("dry, 300 are 5 times 60", s.look(0, 6), 4);
        yes("wet", s.stand(0, 0, 0, 1, 50));
        car("wet, 265", s, 0, 1, -9734);
        due("wet, 300 are less than 9 times 35", s.look(0, 6), 8);
        yes("ice", s.stand(0, 0, 0, 2, 50));
        car("ice, 290", s, 0, 1, -9709);
        due("ice, 300 are 30 times 10", s.look(0, 6), 29);
        no("FLOOR -1", s.stand(0, 0, 0, -1, 50));
        no("FLOOR 3", s.stand(0, 0, 0, 3, 50));
        due("what is refused changes nothing", s.look(0, 6), 29);
    }

    @Sentence("SECOND BY SECOND, from t = 0: the DRIVER SEES the WALKER in t if the CAR has x below 0, the WALKER y below 0,"
        + " and the STAND does not hide them.")
    static void whenHeSees() {
        WhoseStreet s = new WhoseStreet();
        s.meeting(0, -1, 300, 5, -1, 60, 0);
        due("from SECOND 0 on", s.look(0, 1), 0);
        // All are hidden in SECOND 0: 2 * 500 + 2 * 10 is below 500 * 10.
        s.meeting(0, -10, 9, 5, -500, 1, 0);
        s.stand(1, -2, -2, 0, 50);
        due("x -1 in SECOND 1", s.look(1, 1), 1);
        s.meeting(0, -10, 10, 5, -500, 1, 0);
        s.stand(2, -2, -2, 0, 50);
        due("x 0 in SECOND 1", s.look(2, 1), NONE);
        s.meeting(0, -500, 1, 5, -10, 9, 0);
        s.stand(3, -2, -2, 0, 50);
        due("y -1 in SECOND 1", s.look(3, 1), 1);
        s.meeting(0, -500, 1, 5, -10, 10, 0);
        s.stand(4, -2, -2, 0, 50);
        due("y 0 in SECOND 1", s.look(4, 1), NONE);
    }

    @Sentence("FIRST is the first SECOND in which he does.")
    static void firstCanBeAnySecond() {
        WhoseStreet s = new WhoseStreet();
        // The STAND hides them as long as y is below sy: until SECOND t if sy is -999 + 10 * t.
        s.meeting(0, -9999, 1, 0, -999, 10, 0);
        for (int t = 0; t <= 60; t++) {
            s.stand(0, -1, t == 0 ? -999 : -1000 + 10 * t, 0, 50);
            due("FIRST is SECOND " + t, s.look(0, 1), t);
        }
        s.stand(0, -1, -398, 0, 50);
        due("SECOND 61 is none", s.look(0, 1), NONE);
    }

    @Sentence("From SECOND FIRST + REACTS (0 to 5) on, as long as it goes, the CAR goes BRAKE less a SECOND each SECOND (0 at"
        + " least), ahead of going on in that SECOND.")
    static void whenItBrakes() {
        WhoseStreet s = new WhoseStreet();
        for (int reacts = 0; reacts <= 5; reacts++) {
            due("REACTS " + reacts, s.meeting(0, -9999, 61, reacts, -999, 10, 0), reacts);
            car("not ahead of it", s, reacts, reacts, -9999 + 61 * reacts);
            car("in it", s, reacts, reacts + 1, -9999 + 61 * reacts + 1);
            due("0 at least", s.look(reacts, 6), reacts + 1);
            car("it stays there", s, reacts, 60, -9999 + 61 * reacts + 1);
            // Hidden until SECOND 2.
            s.stand(reacts, -1, -980, 0, 50);
            due("from FIRST on", s.look(reacts, 6), 2 + reacts + 1);
        }
        due("REACTS -1", s.meeting(0, -9999, 61, -1, -999, 10, 0), NONE);
        due("REACTS 6", s.meeting(0, -9999, 61, 6, -999, 10, 0), NONE);
        // He is past it in SECOND 1, the CAR in SECOND 1 as well: it brakes all the same, 40 and 0.
        WhoseStreet past = new WhoseStreet();
        past.meeting(0, -10, 100, 3, -1, 60, 0);
        due("though he is past", past.look(0, 6), 4);
        car("though it is past", past, 0, 60, -10 + 300 + 40);
    }

    @Sentence("A WALKER who LOOKS stays where he is in a SECOND in which the DRIVER SEES him (so he sees the CAR), the CAR's"
        + " speed v (ahead of braking in it) is above 0, and -x / v, cut upwards, is at most -y / PACE, cut upwards.")
    static void whenHeStays() {
        WhoseStreet s = new WhoseStreet();
        s.meeting(0, -100, 50, 5, -20, 10, 1);
        walker("2 SECONDS each", s, 0, 1, -20);
        s.meeting(0, -101, 50, 5, -20, 10, 1);
        walker("the CAR needs 3, cut upwards", s, 1, 1, -10);
        s.meeting(0, -101, 50, 5, -21, 10, 1);
        walker("he needs 3, cut upwards", s, 2, 1, -21);
        s.meeting(0, -50, 50, 5, -20, 10, 1);
        walker("the CAR needs 1", s, 3, 1, -20);
        walker("and is there: he goes on", s, 3, 2, -10);
        s.meeting(0, -50, 50, 5, -20, 10, 0);
        walker("one who does not look", s, 4, 1, -10);
        s.meeting(0, -100, 60, 0, -20, 10, 1);
        walker("60 ahead of braking: 2 SECONDS", s, 5, 1, -20);
        car("though it goes 0 in it", s, 5, 1, -100);
        walker("the CAR stands", s, 5, 2, -10);
        s.meeting(0, -100, 99, 0, -19, 10, 1);
        walker("99 ahead of braking: 2 SECONDS", s, 6, 1, -19);
        // Now it went 39: from x -61 it needs 2 SECONDS still, and so does he.
        walker("39 ahead of braking: 2 SECONDS", s, 6, 2, -19);
        walker("it stands then", s, 6, 3, -9);
        s.meeting(0, -5, 1, 5, -5, 1, 1);
        walker("the slowest CAR and WALKER need 5 SECONDS each", s, 7, 1, -5);
        // 90 * 20 + 1 * 100 is below 100 * 20: hidden in SECOND 0.
        s.meeting(0, -100, 50, 5, -20, 10, 1);
        s.stand(8, -90, -1, 0, 50);
        walker("hidden he goes", s, 8, 1, -10);
        walker("not hidden he stays", s, 8, 2, -10);
        walker("the CAR is past", s, 8, 3, 0);
    }

    @Sentence("Then both go on: the CAR by its speed (behind braking), the WALKER by PACE if he does not stay; t grows by 1.")
    static void howTheyGoOn() {
        WhoseStreet s = new WhoseStreet();
        s.meeting(0, -9999, 130, 1, -999, 17, 0);
        int[] xs = {-9999, -9869, -9799, -9789, -9789};
        for (int t = 0; t < xs.length; t++) {
            car("130, 70, 10, 0", s, 0, t, xs[t]);
            walker("17 each SECOND", s, 0, t, -999 + 17 * t);
        }
        s.meeting(0, -9999, 1, 5, -999, 1, 1);
        s.meeting(0, -100, 20, 5, -999, 1, 1);
        walker("a WALKER who need not stay", s, 1, 1, -998);
        walker("one who stays", s, 2, 1, -999);
        car("the CAR does not", s, 2, 1, -80);
    }

    @Sentence("They MEET in a SECOND t from 1 on if then the CAR's x is 0 to 40, the WALKER's y is -8 to 8, and the CAR went"
        + " more than 0 in the SECOND that led there.")
    static void whereTheyMeet() {
        meets("x -1", -61, 60, -10, false);
        meets("x 0", -60, 60, -10, true);
        meets("x 40", -60, 100, -10, true);
        meets("x 41", -60, 101, -10, false);
        meets("y -9", -60, 60, -19, false);
        meets("y -8", -60, 60, -18, true);
        meets("y 8", -60, 60, -2, true);
        meets("y 9", -60, 60, -1, false);
        WhoseStreet s = new WhoseStreet();
        // It goes 1 in SECOND 1 and stands at x 0 from SECOND 2 on; he is there in SECOND 3.
        s.meeting(0, -62, 61, 1, -30, 10, 0);
        car("it stands there", s, 0, 2, 0);
        walker("so does he", s, 0, 3, 0);
        due("it went 0", s.look(0, 0), NONE);
        s.meeting(0, -62, 61, 1, -20, 10, 0);
        due("it went 1", s.look(1, 0), 2);
        due("no more than that", s.look(1, 4), 1);
    }

    /** One MEETING by itself, with PACE 10. */
    private static void meets(String what, int x, int speed, int y, boolean due) {
        WhoseStreet s = new WhoseStreet();
        s.meeting(0, x, speed, 5, y, 10, 0);
        due(what, s.look(0, 0), due ? 1 : NONE);
    }

    @Sentence("The first such t is when they MET; it ends there, or with SECOND 60.")
    static void whenItEnds() {
        WhoseStreet s = new WhoseStreet();
        s.meeting(0, -1, 1, 5, -1, 1, 0);
        due("they would MEET in 1, 2 and more", s.look(0, 0), 1);
        car("it goes to there", s, 0, 1, 0);
        thrown("it ends there", s, 0, 0, 2);
        // Hidden until one is 1 away, in SECOND 59: too late for braking.
        s.meeting(0, -60, 1, 5, -60, 1, 0);
        s.stand(1, -1, -1, 0, 50);
        due("SECOND 60 counts", s.look(1, 0), 60);
        car("it is there", s, 1, 60, 0);
        s.meeting(0, -61, 1, 5, -60, 1, 0);
        s.stand(2, -1, -1, 0, 50);
        due("SECOND 61 does not", s.look(2, 0), NONE);
        car("it ends with SECOND 60", s, 2, 60, -1);
        thrown("and not behind it", s, 2, 0, 61);
    }

    @Sentence("SAFE SPEED: the greatest SPEED up to its own with which they would not have MET, all else alike (0 if there is"
        + " none).")
    static void safeSpeeds() {
        WhoseStreet s = new WhoseStreet();
        s.meeting(0, -60, 101, 5, -2, 10, 0);
        due("its own", s.look(0, 2), 101);
        // 101 would be safe as well, but is more than its own; 60 to 100 are not.
        s.meeting(0, -60, 100, 5, -2, 10, 0);
        due("up to its own", s.look(1, 2), 59);
        s.meeting(0, -60, 60, 5, -2, 10, 0);
        due("the next below", s.look(2, 2), 59);
        // 2 comes to x 0 in SECOND 5; 1 comes to x -5 and brakes.
        s.meeting(0, -10, 40, 5, -3, 1, 0);
        due("the least SPEED", s.look(3, 2), 1);
        s.meeting(0, -1, 1, 5, -1, 1, 0);
        due("none", s.look(4, 2), 0);
        s.meeting(0, -1, 41, 5, -1, 1, 0);
        due("none of many", s.look(5, 2), 0);
        // From 100 on dry floor, braking from SECOND 1 on: 40, which meets him in SECOND 2; on ice it goes 90.
        s.meeting(0, -140, 100, 1, -20, 10, 0);
        due("99 ends ahead of him", s.look(6, 2), 99);
        s.stand(6, 0, 0, 2, 50);
        due("on ice it is x 50 in SECOND 2", s.look(6, 2), 100);
    }

    @Sentence("Nothing told; NOW is 0.")
    static void promise1() {
        WhoseStreet s = new WhoseStreet();
        for (int what = 0; what <= 11; what++) {
            due("count(" + what + ")", s.count(what), 0);
        }
        due("no MEETING", s.look(0, 1), NONE);
        thrown("nobody is anywhere", s, 0, 0, 0);
        no("no MEETING for a STAND", s.stand(0, 0, 0, 0, 50));
        no("no MEETING for a RULING", s.ruling(0, true));
        due("no BY-LAW", s.whose(0, 0, 3), NONE);
        due("no RULING", s.customs(0), 128);
        for (int stream = 0; stream < 4; stream++) {
            due("no stream", s.lights(0, stream), NONE);
        }
        due("no CLASS", s.passes(511), 0);
        no("no CLASS to lean", s.leans(0, 0, 1));
        for (int street = 0; street < 8; street++) {
            due("no street", s.plan(8, street), NONE);
            due("no COUNT", s.fell(street, 0, 1), NONE);
        }
        s.years(30);
        s.trip(0, 1);
        due("another object begins anew", new WhoseStreet().count(0), 0);
        due("and has no TRIP", new WhoseStreet().count(10), 0);
    }

    @Sentence("n YEARS pass (0 to 30): NOW; NONE for another n, beyond 30.")
    static void promise2() {
        WhoseStreet s = new WhoseStreet();
        due("0 pass", s.years(0), 0);
        due("30 pass", s.years(30), 30);
        due("0 pass at the end", s.years(0), 30);
        due("31", new WhoseStreet().years(31), NONE);
        due("-1", new WhoseStreet().years(-1), NONE);
        WhoseStreet half = new WhoseStreet();
        half.years(15);
        due("-1 from 15", half.years(-1), NONE);
        due("16 from 15 are beyond 30", half.years(16), NONE);
        for (int n : FAR) {
            due("n " + n, half.years(n), NONE);
        }
        due("what is refused changes nothing", half.count(0), 15);
        due("nor THE VIEW", half.count(1), 15);
        due("15 from 15", half.years(15), 30);
    }

    @Sentence("THE VIEW: true; false: a YEAR behind NOW, below 0.")
    static void promise3() {
        WhoseStreet s = new WhoseStreet();
        no("1 in YEAR 0", s.view(1));
        yes("0 in YEAR 0", s.view(0));
        s.years(30);
        yes("0", s.view(0));
        no("-1", s.view(-1));
        no("31", s.view(31));
        for (int year : FAR) {
            no("YEAR " + year, s.view(year));
        }
        due("what is refused changes nothing", s.count(1), 0);
        yes("29", s.view(29));
        due("29 it is", s.count(1), 29);
        yes("NOW", s.view(30));
        due("NOW it is", s.count(1), 30);
    }

    @Sentence("A MEETING's CAR and WALKER (looks: bit 0 LOOKS, the bits above the kind): its number; NONE: no such YEAR, other"
        + " numbers, 40 are there.")
    static void promise4() {
        WhoseStreet s = new WhoseStreet();
        due("looks -1", addMeeting(s, -1), NONE);
        due("kind 3", addMeeting(s, 6), NONE);
        due("kind 3 who LOOKS", addMeeting(s, 7), NONE);
        int[] signs = {0, 16, 2, 18, 4, 20};
        for (int looks = 0; looks <= 5; looks++) {
            due("its number", addMeeting(s, looks), looks);
            due("looks " + looks, s.look(looks, 5), 8 | signs[looks]);
        }
        due("YEAR -1", s.meeting(-1, -1, 1, 0, -1, 1, 0), NONE);
        due("YEAR 1, behind NOW", s.meeting(1, -1, 1, 0, -1, 1, 0), NONE);
        for (int n : FAR) {
            due("YEAR " + n, s.meeting(n, -1, 1, 0, -1, 1, 0), NONE);
            due("x " + n, s.meeting(0, n, 1, 0, -1, 1, 0), NONE);
            due("SPEED " + n, s.meeting(0, -1, n, 0, -1, 1, 0), NONE);
            due("REACTS " + n, s.meeting(0, -1, 1, n, -1, 1, 0), NONE);
            due("y " + n, s.meeting(0, -1, 1, 0, n, 1, 0), NONE);
            due("PACE " + n, s.meeting(0, -1, 1, 0, -1, n, 0), NONE);
            due("looks " + n, s.meeting(0, -1, 1, 0, -1, 1, n), NONE);
        }
        due("those that are refused are not there", s.count(2), 6);
        for (int i = 6; i < 40; i++) {
            due("its number", addMeeting(s, 0), i);
        }
        due("40 are there", addMeeting(s, 0), NONE);
        due("and stay", s.count(2), 40);
    }

    @Sentence("Its STAND (sx 0: none), FLOOR (0 at first) and width (50 at first): true; false: none such, other numbers.")
    static void promise5() {
        WhoseStreet s = withMeeting();
        Checks.law(s, "limit 50 when width = 50 and floor = 0 and hidden = 0 ; limit 7 when width = 0 and floor = 2 and hidden ;"
            + "limit 8 when width = 99 and floor = 1 and not hidden ;", 0);
        due("at first", s.whose(0, 0, 2), 50);
        no("MEETING -1", s.stand(-1, -1, -1, 2, 0));
        no("MEETING 1 of 1", s.stand(1, -1, -1, 2, 0));
        no("width -1", s.stand(0, -1, -1, 2, -1));
        no("width 100", s.stand(0, -1, -1, 2, 100));
        for (int n : FAR) {
            no("MEETING " + n, s.stand(n, -1, -1, 2, 0));
            no("sx " + n, s.stand(0, n, -1, 2, 0));
            no("sy " + n, s.stand(0, -1, n, 2, 0));
            no("FLOOR " + n, s.stand(0, -1, -1, n, 0));
            no("width " + n, s.stand(0, -1, -1, 2, n));
        }
        due("what is refused changes nothing", s.whose(0, 0, 2), 50);
        yes("width 0", s.stand(0, -1, -1, 2, 0));
        due("all three are told", s.whose(0, 0, 2), 7);
        yes("width 99, and no STAND", s.stand(0, 0, -1, 1, 99));
        due("all three are told anew", s.whose(0, 0, 2), 8);
    }

    @Sentence("Of a MEETING, what 0: the SECOND when they MET, 1: FIRST (NONE if he never SEES), 2: SAFE SPEED, 3: seen, 4: how"
        + " fast the CAR went in the SECOND that led there, 5: SIGNS as bits, 6: the first SECOND in which the CAR goes 0 (by"
        + " braking, ahead of the end; NONE); NONE: none such, they did not MEET (0, 4).")
    static void promise6() {
        WhoseStreet s = withMeeting();
        int[] met = {2, 0, 99, 2, 100, 8, NONE, NONE};
        for (int what = 0; what < met.length; what++) {
            due("MET, what " + what, s.look(0, what), met[what]);
        }
        s.meeting(0, -9999, 60, 5, -999, 1, 1);
        int[] stopped = {NONE, 0, 60, 60, NONE, 24, 5, NONE};
        for (int what = 0; what < stopped.length; what++) {
            due("not MET, what " + what, s.look(1, what), stopped[what]);
        }
        s.stand(1, -1, -1, 0, 50);
        due("he never SEES", s.look(1, 1), NONE);
        due("so it never stands", s.look(1, 6), NONE);
        due("what -1", s.look(0, -1), NONE);
        for (int what = 0; what <= 6; what++) {
            due("MEETING -1", s.look(-1, what), NONE);
            due("MEETING 2 of 2", s.look(2, what), NONE);
            for (int n : FAR) {
                due("MEETING " + n, s.look(n, what), NONE);
                due("what " + n, s.look(0, n), NONE);
            }
        }
        goesZeroAheadOfTheEnd();
    }

    /** FIRST is SECOND t: the CAR with REACTS 0 and SPEED 60 goes 0 in it, if that is one in which it goes. */
    private static void goesZeroAheadOfTheEnd() {
        WhoseStreet s = new WhoseStreet();
        s.meeting(0, -9999, 60, 0, -999, 10, 0);
        s.stand(0, -1, -1000 + 10 * 59, 0, 50);
        due("it goes 0 in SECOND 59", s.look(0, 6), 59);
        s.stand(0, -1, -1000 + 10 * 60, 0, 50);
        due("FIRST is the end", s.look(0, 1), 60);
        due("in which it goes no more", s.look(0, 6), NONE);
        s.meeting(0, -60, 60, 1, -10, 10, 0);
        due("they MET ahead of it", s.look(1, 0), 1);
        due("so it does not stand", s.look(1, 6), NONE);
    }

    @Sentence("Where the CAR (who 0) or the WALKER (1) is in a SECOND t, as far as it went on. NoSuchElementException: none such,"
        + " t is behind the end.")
    static void promise7() {
        WhoseStreet s = withMeeting();
        car("the CAR in 0", s, 0, 0, -200);
        car("the CAR where they MET", s, 0, 2, 0);
        walker("the WALKER in 0", s, 0, 0, -40);
        walker("the WALKER where they MET", s, 0, 2, 0);
        thrown("behind the end", s, 0, 0, 3);
        thrown("behind the end, the WALKER", s, 0, 1, 3);
        thrown("SECOND 60, behind the end", s, 0, 0, 60);
        thrown("SECOND -1", s, 0, 0, -1);
        thrown("who -1", s, 0, -1, 0);
        thrown("who 2", s, 0, 2, 0);
        thrown("MEETING -1", s, -1, 0, 0);
        thrown("MEETING 1 of 1", s, 1, 0, 0);
        for (int n : FAR) {
            thrown("MEETING " + n, s, n, 0, 0);
            thrown("who " + n, s, 0, n, 0);
            thrown("SECOND " + n, s, 0, 0, n);
        }
        due("nothing is changed", s.look(0, 0), 2);
        s.stand(0, 0, 0, 0, 50);
        s.meeting(0, -9999, 1, 5, -999, 1, 0);
        walker("the WALKER in SECOND 60", s, 1, 60, -939);
        thrown("SECOND 61", s, 1, 1, 61);
    }
}
