/** Each promise of the document with ordinary inputs, the edges that it names, and wrong inputs. */
public final class PromiseTest {
    private static final int NONE = WhoseStreet.NONE;
    private static final Checks CHECKS = new Checks();

    public static void main(String[] args) {
        newObject();
        years();
        view();
        meeting();
        stand();
        look();
        lookAtTheEdges();
        at();
        feed();
        law();
        lawAtItsLimits();
        whose();
        whatStandsInE();
        changes();
        ruling();
        customs();
        held();
        since();
        stream();
        together();
        lights();
        voters();
        leans();
        passes();
        most();
        counted();
        fell();
        street();
        trip();
        plan();
        count();
        CHECKS.end();
    }

    private static void due(String what, long got, long want) {
        CHECKS.due(what, got, want);
    }

    private static void yes(String what, boolean got) {
        CHECKS.due(what, got, true);
    }

    private static void no(String what, boolean got) {
        CHECKS.due(what, got, false);
    }

    private static void newObject() {
        WhoseStreet s = new WhoseStreet();
        due("1 NONE", WhoseStreet.NONE, -1);
        for (int what = 0; what <= 11; what++) {
            due("1 count(" + what + ") of a new object", s.count(what), 0);
        }
        due("1 look", s.look(0, 0), NONE);
        due("1 whose", s.whose(0, 0, 0), NONE);
        due("1 changes", s.changes(0, 0), NONE);
        due("1 customs", s.customs(0), 128);
        due("1 passes", s.passes(0), 0);
        due("1 lights", s.lights(0, 4), NONE);
        due("1 plan's sum", s.plan(0, 8), 0);
        for (int street = 0; street < 8; street++) {
            due("1 fell", s.fell(street, 0, 30), NONE);
            due("1 plan", s.plan(8, street), NONE);
        }
        s.years(3);
        due("1 two objects", new WhoseStreet().count(0), 0);
    }

    private static void years() {
        WhoseStreet s = new WhoseStreet();
        due("2 none pass", s.years(0), 0);
        due("2 below 0", s.years(-1), NONE);
        due("2 above 30", s.years(31), NONE);
        due("2 overflow", s.years(Integer.MAX_VALUE), NONE);
        due("2 ten", s.years(10), 10);
        due("2 beyond 30", s.years(21), NONE);
        due("2 a refused call changes nothing", s.count(0), 10);
        due("2 to 30", s.years(20), 30);
        due("2 none pass at the end", s.years(0), 30);
        due("2 one more", s.years(1), NONE);
        due("2 all at once", new WhoseStreet().years(30), 30);
    }

    private static void view() {
        WhoseStreet s = new WhoseStreet();
        yes("3 NOW", s.view(0));
        no("3 behind NOW", s.view(1));
        no("3 below 0", s.view(-1));
        s.years(5);
        due("3 goes with NOW", s.count(1), 5);
        yes("3 ahead of NOW", s.view(2));
        due("3 is told", s.count(1), 2);
        s.years(1);
        due("3 stays as YEARS pass", s.count(1), 2);
        no("3 behind NOW later", s.view(7));
        due("3 a refused one changes nothing", s.count(1), 2);
        yes("3 NOW again", s.view(6));
        s.years(1);
        due("3 goes with NOW again", s.count(1), 7);
        due("3 NOW is as it is", s.count(0), 7);
    }

    private static void meeting() {
        WhoseStreet s = new WhoseStreet();
        s.years(2);
        due("4 a year ahead of NOW", s.meeting(0, -9999, 300, 5, -999, 60, 5), 0);
        due("4 NOW", s.meeting(2, -1, 1, 0, -1, 1, 0), 1);
        due("4 behind NOW", s.meeting(3, -1, 1, 0, -1, 1, 0), NONE);
        due("4 no year", s.meeting(-1, -1, 1, 0, -1, 1, 0), NONE);
        due("4 x 0", s.meeting(0, 0, 1, 0, -1, 1, 0), NONE);
        due("4 x too far", s.meeting(0, -10000, 1, 0, -1, 1, 0), NONE);
        due("4 speed 0", s.meeting(0, -1, 0, 0, -1, 1, 0), NONE);
        due("4 speed 301", s.meeting(0, -1, 301, 0, -1, 1, 0), NONE);
        due("4 reacts -1", s.meeting(0, -1, 1, -1, -1, 1, 0), NONE);
        due("4 reacts 6", s.meeting(0, -1, 1, 6, -1, 1, 0), NONE);
        due("4 y 0", s.meeting(0, -1, 1, 0, 0, 1, 0), NONE);
        due("4 y too far", s.meeting(0, -1, 1, 0, -1000, 1, 0), NONE);
        due("4 pace 0", s.meeting(0, -1, 1, 0, -1, 0, 0), NONE);
        due("4 pace 61", s.meeting(0, -1, 1, 0, -1, 61, 0), NONE);
        due("4 kind 3", s.meeting(0, -1, 1, 0, -1, 1, 6), NONE);
        due("4 looks below 0", s.meeting(0, -1, 1, 0, -1, 1, -1), NONE);
        due("4 refused ones are not there", s.count(2), 2);
        for (int i = 2; i < 40; i++) {
            due("4 more", s.meeting(0, -100, 50, 0, -50, 10, i % 6), i);
        }
        due("4 a 41st", s.meeting(0, -100, 50, 0, -50, 10, 0), NONE);
        due("4 are there", s.count(2), 40);
    }

    private static void stand() {
        WhoseStreet s = new WhoseStreet();
        no("5 no meeting", s.stand(0, 0, 0, 0, 0));
        s.meeting(0, -300, 101, 1, -90, 30, 4);
        due("5 width 50 and dry at first", s.look(0, 5), 1 | 4 | 8);
        no("5 below 0", s.stand(-1, 0, 0, 0, 0));
        no("5 not there", s.stand(1, 0, 0, 0, 0));
        no("5 sx above 0", s.stand(0, 1, -1, 0, 0));
        no("5 sx too far", s.stand(0, -10000, -1, 0, 0));
        no("5 sy 0", s.stand(0, -1, 0, 0, 0));
        no("5 sy too far", s.stand(0, -1, -1000, 0, 0));
        no("5 floor 3", s.stand(0, -1, -1, 3, 0));
        no("5 floor below 0", s.stand(0, -1, -1, -1, 0));
        no("5 width 100", s.stand(0, -1, -1, 0, 100));
        no("5 width below 0", s.stand(0, -1, -1, 0, -1));
        due("5 refused ones change nothing", s.look(0, 5), 1 | 4 | 8);
        yes("5 farthest", s.stand(0, -9999, -999, 2, 99));
        yes("5 nearest", s.stand(0, -1, -1, 1, 0));
        // It hides them until he is past it in SECOND 3 (y 0), and so for good.
        due("5 never sees", s.look(0, 1), NONE);
        due("5 signs with it", s.look(0, 5), 1 | 4 | 32 | 64 | 128);
        yes("5 taken away", s.stand(0, 0, 0, 0, 10));
        due("5 signs without it", s.look(0, 5), 1 | 4 | 8);
        due("5 sees again", s.look(0, 1), 0);
        yes("5 sy is of no matter without one", s.stand(0, 0, 7, 0, 10));
        s.meeting(0, -210, 100, 5, -20, 10, 0);
        s.stand(1, -210, -1, 0, 50);
        due("5 a car at sx is seen", s.look(1, 1), 0);
        s.stand(1, -20, -20, 0, 50);
        due("5 a walker at sy is seen", s.look(1, 1), 0);
        // 53 * 20 + 15 * 210 is 4210, 52 * 20 + 15 * 210 is 4190: more and less than 210 * 20.
        s.stand(1, -53, -15, 0, 50);
        due("5 the line goes by the corner", s.look(1, 1), 0);
        s.stand(1, -52, -15, 0, 50);
        due("5 the line goes through it", s.look(1, 1), 1);
        s.meeting(0, -200, 100, 5, -20, 10, 0);
        s.stand(2, -100, -10, 0, 50);
        due("5 the line goes through the corner itself", s.look(2, 1), 1);
        // Hidden in SECOND 0, and in SECOND 1 he is at y 0, which the driver need not see.
        s.meeting(0, -500, 100, 5, -10, 10, 0);
        s.stand(3, -1, -1, 0, 50);
        due("5 at y 0 nobody is seen", s.look(3, 1), NONE);
        // The same with the car at x 0.
        s.meeting(0, -10, 10, 5, -500, 10, 0);
        s.stand(4, -1, -1, 0, 50);
        due("5 from x 0 nobody sees", s.look(4, 1), NONE);
    }

    private static void look() {
        WhoseStreet s = new WhoseStreet();
        due("6 no meeting", s.look(0, 1), NONE);
        // Reacts too late: x -200, -100, 0 and y -40, -20, 0; braking would begin in SECOND 5.
        s.meeting(0, -200, 100, 5, -40, 20, 0);
        due("6 MET", s.look(0, 0), 2);
        due("6 FIRST", s.look(0, 1), 0);
        // 99 leads to x -2 in SECOND 2, then y is 20.
        due("6 SAFE SPEED", s.look(0, 2), 99);
        due("6 seen", s.look(0, 3), 2);
        due("6 how fast", s.look(0, 4), 100);
        due("6 SIGNS", s.look(0, 5), 8);
        due("6 never stands", s.look(0, 6), NONE);
        due("6 what 7", s.look(0, 7), NONE);
        due("6 what below 0", s.look(0, -1), NONE);
        due("6 meeting below 0", s.look(-1, 0), NONE);
        due("6 meeting that is not there", s.look(1, 0), NONE);
        // On a dry floor he brakes in SECOND 0: 100, 40, 0. x -200 -> -160 -> -160.
        s.meeting(0, -200, 100, 0, -40, 20, 0);
        due("6 brakes in time", s.look(1, 0), NONE);
        due("6 stands in", s.look(1, 6), 1);
        due("6 no speed without MET", s.look(1, 4), NONE);
        due("6 seen without MET", s.look(1, 3), 60);
        due("6 its own speed is safe", s.look(1, 2), 100);
        // Wet: 65, 30, 0 in SECONDS 0, 1, 2: -135, -105.
        s.stand(1, 0, 0, 1, 50);
        due("6 stands later on a wet floor", s.look(1, 6), 2);
        due("6 x on a wet floor", Checks.at(s, 1, 0, 1), -135);
        due("6 x on a wet floor then", Checks.at(s, 1, 0, 2), -105);
        // Ice: 90, 80, 70, 60: -110, -30, 40: in SECOND 3 y is 20.
        s.stand(1, 0, 0, 2, 50);
        due("6 does not meet on ice", s.look(1, 0), NONE);
        due("6 stands on ice", s.look(1, 6), 9);
        due("6 x when it stands", Checks.at(s, 1, 0, 60), -200 + 90 + 80 + 70 + 60 + 50 + 40 + 30 + 20 + 10);
    }

    private static void lookAtTheEdges() {
        WhoseStreet s = new WhoseStreet();
        // x 40 and y 8 in SECOND 1 still meet; 41 or 9 don't.
        s.meeting(0, -60, 100, 1, -2, 10, 0);
        due("6 x 40, y 8", s.look(0, 0), 1);
        due("6 a slower one meets too until x is below 0", s.look(0, 2), 59);
        s.meeting(0, -60, 101, 1, -2, 10, 0);
        due("6 x 41", s.look(1, 0), NONE);
        s.meeting(0, -60, 100, 1, -1, 10, 0);
        due("6 y 9", s.look(2, 0), NONE);
        s.meeting(0, -60, 60, 1, -18, 10, 0);
        due("6 x 0, y -8", s.look(3, 0), 1);
        s.meeting(0, -60, 60, 1, -19, 10, 0);
        due("6 y -9", s.look(4, 0), NONE);
        // It stands on the place from SECOND 1 on, when he comes: it went 0, so they don't meet.
        s.meeting(0, -60, 60, 1, -35, 10, 0);
        due("6 a car that stands meets nobody", s.look(5, 0), NONE);
        due("6 it stands in 1", s.look(5, 6), 1);
        due("6 it is there", Checks.at(s, 5, 0, 3), 0);
        due("6 he is there", Checks.at(s, 5, 1, 3), -5);
        // The very slowest can't miss him either.
        s.meeting(0, -1, 1, 5, -1, 1, 0);
        due("6 no safe speed", s.look(6, 2), 0);
        due("6 met at once", s.look(6, 0), 1);
        due("6 one second is not seen enough", s.look(6, 5), 0);
        // Looks, and waits: the car needs 1 SECOND, he needs 2; behind it (x 0) he goes on.
        s.meeting(0, -50, 50, 5, -20, 10, 1);
        due("6 he waits", Checks.at(s, 7, 1, 1), -20);
        due("6 he goes on behind it", Checks.at(s, 7, 1, 2), -10);
        // The car needs 3 SECONDS cut upwards, he 2: he goes.
        s.meeting(0, -101, 50, 5, -20, 10, 1);
        due("6 he does not wait", Checks.at(s, 8, 1, 1), -10);
        // The slowest car and the slowest walker: 5 SECONDS each, so he waits.
        s.meeting(0, -5, 1, 5, -5, 1, 1);
        due("6 he waits for the slowest", Checks.at(s, 9, 1, 1), -5);
        // 3 comes to x 2 in SECOND 4, with y 6; 2 comes to x 0 in SECOND 5, with y 10.
        s.meeting(0, -10, 50, 5, -10, 4, 0);
        due("6 met in 1", s.look(10, 0), 1);
        due("6 with 2 it comes when he is past", s.look(10, 2), 2);
        // A car that stands ahead of him is waited for no more.
        s.meeting(0, -100, 60, 0, -20, 10, 1);
        due("6 it stands at once", s.look(11, 6), 0);
        due("6 he waits while it goes", Checks.at(s, 11, 1, 1), -20);
        due("6 he goes when it stands", Checks.at(s, 11, 1, 2), -10);
        // 2 comes to x 0 in SECOND 5, ahead of braking; 1 comes to x -5 and stands.
        WhoseStreet slow = new WhoseStreet();
        slow.meeting(0, -10, 40, 5, -3, 1, 0);
        due("6 only the slowest is safe", slow.look(0, 2), 1);
        // In SECOND 60 he sees for the first time: y -999 + 60 * 10 is -399, and that is behind -400 no more.
        s.meeting(0, -9999, 1, 0, -999, 10, 0);
        s.stand(12, -1, -400, 0, 50);
        due("6 FIRST in SECOND 60", s.look(12, 1), 60);
        due("6 seen then", s.look(12, 3), 0);
        s.stand(12, -1, -399, 0, 50);
        due("6 still hidden in SECOND 60 by the line alone", s.look(12, 1), 60);
        s.stand(12, -1, -398, 0, 50);
        due("6 never", s.look(12, 1), NONE);
        due("6 seen if he never sees", s.look(12, 3), 0);
    }

    private static void at() {
        WhoseStreet s = new WhoseStreet();
        due("7 no meeting", Checks.at(s, 0, 0, 0), Checks.THROWN);
        s.meeting(0, -200, 100, 5, -40, 20, 0);
        due("7 car in 0", Checks.at(s, 0, 0, 0), -200);
        due("7 walker in 0", Checks.at(s, 0, 1, 0), -40);
        due("7 car in 2", Checks.at(s, 0, 0, 2), 0);
        due("7 walker in 2", Checks.at(s, 0, 1, 2), 0);
        due("7 behind the end", Checks.at(s, 0, 0, 3), Checks.THROWN);
        due("7 below 0", Checks.at(s, 0, 0, -1), Checks.THROWN);
        due("7 who 2", Checks.at(s, 0, 2, 0), Checks.THROWN);
        due("7 who below 0", Checks.at(s, 0, -1, 0), Checks.THROWN);
        due("7 meeting below 0", Checks.at(s, -1, 0, 0), Checks.THROWN);
        due("7 meeting that is not there", Checks.at(s, 1, 0, 0), Checks.THROWN);
        s.meeting(0, -200, 100, 0, -40, 20, 0);
        due("7 walker in 60", Checks.at(s, 1, 1, 60), -40 + 60 * 20);
        due("7 behind 60", Checks.at(s, 1, 1, 61), Checks.THROWN);
        due("7 nothing is changed", s.look(0, 0), 2);
    }

    private static void feed() {
        WhoseStreet s = new WhoseStreet();
        due("8 nothing", s.feed(0, 0, 0), 0);
        due("8 the bytes left out", s.feed(0x0a20_7e7f_1f80_ff09L, 0, 0), 3);
        due("8 the highest first", s.feed(0x6c65_7420L << 32 | 0x6120_3d20L, 0x3120_3b00L << 32, 0), 14);
        due("8 ~ can't stand", s.law(0), 1 + 16 * 2);
        due("8 taken", s.count(6), 0);
        for (int i = 1; i <= 41; i++) {
            due("8 full rows", Checks.feed(s, "                        "), 24 * i);
        }
        due("8 to 1,000", Checks.feed(s, "                      xx"), 1000);
        due("8 beyond 1,000", s.feed(-1L >>> 1, 0x2020_2020_2020_2020L, 0), 1000);
        due("8 the 1,000 are kept", s.law(0), 0);
    }

    private static void fault(String text, int kind, int place) {
        due("9 [" + text + "]", Checks.law(new WhoseStreet(), text, 0), kind + 16 * place);
    }

    private static void right(String text) {
        due("9 [" + text + "]", Checks.law(new WhoseStreet(), text, 0), 0);
    }

    private static void law() {
        right("");
        right(" \n ");
        right("let a=1;limit 1 when a;limit 999 when not a;fault none when(1);");
        right("fault both when1;");
        right("fault both when 12and 3;");
        right("fault both when speed+pace*seen-met<looks and kind=floor or width and hidden or limit=year;");
        right("let abcdefgh = 1 ; let abcdefg = abcdefgh ;");
        right("let ab=1;let ba=1;let az=1;let bz=1;let b=1;let aa=1;let z=1;let y=1;");
        right("fault both when 1 and 2 and 3 and 4 or 5 or 6 or 7;");
        fault("1", 1, 0);
        fault("0 let", 1, 0);
        right("fault both when not not not 1 ; fault both when ( ( ( 1 ) ) ) ;");
        right("fault both when not(not 0) < not(1=1)*(2<3);");
        right("fault both when 1 < 2 and 2 < 3 or 1 = 1 ;");
        right("fault both when ( 1 < 2 ) = 3 ;");
        fault("limit 0 when 1 ;", 4, 6);
        fault("limit 1000 when 1 ;", 4, 6);
        fault("limit 0000 when 1 ;", 4, 6);
        fault("limit 00001 when 1 ;", 1, 6);
        fault("limit speed when 1 ;", 1, 6);
        fault("fault judge when 1 ;", 1, 6);
        fault("fault let when 1 ;", 1, 6);
        fault("let let = 1 ;", 1, 4);
        fault("let year = 1 ;", 1, 4);
        fault("let when = 1 ;", 1, 4);
        fault("let not = 1 ;", 1, 4);
        fault("let 1 = 1 ;", 1, 4);
        fault("let abcdefghi = 1 ;", 1, 4);
        fault("let a 1 ;", 1, 6);
        fault("let a when 1 ;", 1, 6);
        fault("fault both = 1 ;", 1, 11);
        fault("let a = a ;", 2, 8);
        fault("let a = b ; let b = 1 ;", 2, 8);
        fault("let a = 1 ; let a = 1 ;", 3, 16);
        fault("let a = 1 ", 1, 10);
        fault("let a =", 1, 7);
        fault("let", 1, 3);
        fault("let a", 1, 5);
        fault("let a = 1 let", 1, 10);
        fault("let a = 1 ;;", 1, 11);
        fault("let a = 1 ; driver", 1, 12);
        fault("let a = 1 ) ;", 1, 10);
        fault("let a = ( 1 ;", 1, 12);
        fault("let a = ( 1", 1, 11);
        fault("let a = ( ) ;", 1, 10);
        fault("let a = - 1 ;", 1, 8);
        fault("let a = 1 + ;", 1, 12);
        fault("let a = 1 not 2 ;", 1, 10);
        fault("let a = 1 2 ;", 1, 10);
        fault("let a = not ;", 1, 12);
        fault("let a = 1 < 2 < 3 ;", 1, 14);
        fault("let a = 1 = 2 + 3 = 4 ;", 1, 18);
        fault("let a = 1 / 2 ;", 1, 10);
        fault("let A = 1 ;", 1, 4);
        fault("let a = 1 & 2 ;", 1, 10);
        fault("let a = driver ;", 1, 8);
        fault("let a = both ;", 1, 8);
        fault("let a = when ;", 1, 8);
        fault("let a = 12345 ;", 1, 8);
    }

    private static void lawAtItsLimits() {
        String four = "fault both when not ( not ( ";
        fault(four + "1", 5, 28);
        fault(four + "year", 5, 28);
        fault(four + "not", 5, 28);
        fault(four + "(", 5, 28);
        fault(four + "a", 2, 28);
        fault(four + ")", 1, 28);
        fault(four + "12345", 1, 28);
        right("fault both when not ( not 1 ) + not not not 1 ;");
        StringBuilder twenty = new StringBuilder();
        StringBuilder eight = new StringBuilder();
        for (int i = 0; i < 20; i++) {
            twenty.append("limit 1 when 1;");
        }
        for (int i = 0; i < 8; i++) {
            eight.append("let ").append((char) ('a' + i)).append("=1;");
        }
        right(twenty.toString());
        fault(twenty + "let a = 1 ;", 5, 300);
        fault(twenty + "fault", 5, 300);
        fault(twenty + "when", 1, 300);
        fault(twenty + "a", 1, 300);
        right(eight.toString());
        fault(eight + "let i = 1 ;", 5, 68);
        fault(eight + "let a = 1 ;", 3, 68);
        fault(eight + "let or = 1 ;", 1, 68);
        WhoseStreet s = new WhoseStreet();
        due("9 no year", Checks.law(s, "stop", -1), -1);
        due("9 the TAPE is taken then", s.count(6), 0);
        due("9 a fault takes it too", Checks.law(s, "stop", 30), 1);
        due("9 taken by a fault", s.count(6), 0);
        for (int i = 0; i < 16; i++) {
            due("9 told", Checks.law(s, "fault both when 1 ;", 30), 0);
        }
        due("9 a 17th", Checks.law(s, "fault both when 1 ;", 0), -1);
        due("9 the TAPE is taken then, too", s.count(6), 0);
        due("9 16 are there", s.count(3), 16);
    }

    private static void whose() {
        WhoseStreet s = new WhoseStreet();
        s.meeting(0, -200, 100, 5, -40, 20, 3);
        due("10 without a law", s.whose(0, 0, 0), 0);
        due("10 WHY without a law", s.whose(0, 0, 1), NONE);
        due("10 limit without a law", s.whose(0, 0, 2), 0);
        due("10 which without a law", s.whose(0, 0, 3), NONE);
        Checks.law(s, "let a = limit ; fault driver when limit = 70 and a = 0 ; limit 50 when 200 < speed ;"
            + "limit 70 when limit = 0 ; limit 90 when 1 ; fault both when 1 ;", 10);
        due("10 ahead of its year", s.whose(0, 9, 0), 0);
        due("10 WHO, limit being told behind", s.whose(0, 10, 0), 1);
        due("10 WHY counts every line", s.whose(0, 10, 1), 1);
        due("10 the first limit that holds", s.whose(0, 10, 2), 70);
        due("10 holds on", s.whose(0, 30, 3), 0);
        due("10 no year", s.whose(0, 31, 3), NONE);
        due("10 below 0", s.whose(0, -1, 3), NONE);
        due("10 no meeting", s.whose(1, 0, 0), NONE);
        due("10 what 4", s.whose(0, 10, 4), NONE);
        due("10 what below 0", s.whose(0, 10, -1), NONE);
        Checks.law(s, "fault walker when 0 ; fault walker when 1 ;", 10);
        due("10 of one year the latest told", s.whose(0, 10, 3), 1);
        due("10 its WHO", s.whose(0, 10, 0), 2);
        due("10 its WHY", s.whose(0, 10, 1), 1);
        Checks.law(s, "fault none when 1 ;", 5);
        due("10 told later for an earlier year", s.whose(0, 9, 3), 2);
        due("10 does not hold in the next one's", s.whose(0, 10, 3), 1);
        due("10 none, with a line", s.whose(0, 9, 0), 0);
        due("10 none, but WHY", s.whose(0, 9, 1), 0);
        s.years(1);
        Checks.law(s, "fault both when 1 ;", 0);
        due("10 told NOW", s.whose(0, 0, 0), 3);
        s.view(0);
        due("10 not told in THE VIEW", s.whose(0, 0, 3), NONE);
        due("10 told in THE VIEW", s.whose(0, 5, 3), 2);
    }

    private static void worth(String e, int want) {
        WhoseStreet s = new WhoseStreet();
        s.meeting(0, -200, 100, 5, -40, 20, 3);
        s.stand(0, -9998, -998, 2, 42);
        worth(s, e, want);
    }

    private static void worthWhenMet(String e, int want) {
        WhoseStreet s = new WhoseStreet();
        s.meeting(0, -200, 100, 5, -40, 20, 4);
        worth(s, e, want);
    }

    private static void worth(WhoseStreet s, String e, int want) {
        String text = "let x = 7 ; let z = limit ; limit 333 when 1 ; fault walker when (" + e + ") = " + want + " ;";
        due("3 [" + text + "]", Checks.law(s, text, 0), 0);
        due("3 " + e + " is " + want, s.whose(0, 6, 0), 2);
    }

    private static void whatStandsInE() {
        worth("speed", 100);
        worth("pace", 20);
        worth("seen", 60);
        worth("met", 0);
        worth("looks", 1);
        worth("kind", 1);
        worth("floor", 2);
        worth("width", 42);
        worth("hidden", 1);
        worth("year", 6);
        worth("limit", 333);
        worth("x", 7);
        worth("z", 0);
        worth("2 + 3 * 4 - 5 - 6", 3);
        worth("0 - 1 < 0", 1);
        worth("1 or 1 and 0", 0);
        worth("2 and 3", 1);
        worth("0 or 5", 1);
        worth("not 5 + 1", 1);
        worth("not 0 * 3", 3);
        worth("not not 9", 1);
        worth("3 = 3", 1);
        worth("3 < 3", 0);
        worth("1 + 1 = 2 and 2 < 1 + 2", 1);
        worth("9999 * 9999 * 9999 = 9999 * 9999 * 9999", 1);
        // 65536 * 32768 goes round in 32 bits to -2147483648.
        worth("256 * 256 * 256 * 128 < 0", 1);
        worth("256 * 256 * 256 * 256", 0);
        worth("256 * 256 * 256 * 128 - 1 < 0", 0);
        worth("2 * (3 + 4) * 5", 70);
        worth("10 - (4 - 3)", 9);
        worth("0 or 0", 0);
        worth("1 or 0", 1);
        worth("3 and 0", 0);
        worth("0 and 3", 0);
        worth("4 = 3", 0);
        worth("not 2", 0);
        worthWhenMet("met", 1);
        worthWhenMet("seen", 2);
        worthWhenMet("looks", 0);
        worthWhenMet("hidden", 0);
        worthWhenMet("kind", 2);
        worthWhenMet("floor", 0);
        worthWhenMet("width", 50);
    }

    private static void changes() {
        WhoseStreet s = new WhoseStreet();
        s.meeting(0, -200, 100, 5, -40, 20, 0);
        due("11 no law", s.changes(0, 0), NONE);
        Checks.law(s, "fault driver when year < 3 ; fault walker when year < 30 ; fault both when 1 ;", 0);
        due("11 first", s.changes(0, 0), 3);
        due("11 second", s.changes(0, 1), 30);
        due("11 third", s.changes(0, 2), NONE);
        due("11 below 0", s.changes(0, -1), NONE);
        due("11 no meeting", s.changes(1, 0), NONE);
        due("11 meeting below 0", s.changes(-1, 0), NONE);
        Checks.law(s, "fault walker when 1 ;", 10);
        due("11 another law that says the same", s.changes(0, 1), NONE);
        WhoseStreet first = new WhoseStreet();
        first.meeting(0, -200, 100, 5, -40, 20, 0);
        Checks.law(first, "fault driver when 1 ;", 0);
        due("11 YEAR 0 is no change", first.changes(0, 0), NONE);
        Checks.law(first, "", 1);
        due("11 YEAR 1 is one", first.changes(0, 0), 1);
    }

    private static void ruling() {
        WhoseStreet s = new WhoseStreet();
        no("12 no meeting", s.ruling(0, true));
        s.meeting(0, -200, 100, 5, -40, 20, 0);
        no("12 below 0", s.ruling(-1, true));
        for (int i = 0; i < 80; i++) {
            yes("12 told", s.ruling(0, true));
        }
        no("12 an 81st", s.ruling(0, true));
        due("12 are there", s.count(4), 80);
    }

    private static void customs() {
        WhoseStreet s = new WhoseStreet();
        s.meeting(0, -200, 100, 5, -40, 20, 0);
        due("13 all", s.customs(0), 128);
        due("13 no year", s.customs(-1), NONE);
        due("13 no year 31", s.customs(31), NONE);
        // 8 words are so, and 28 pairs of them.
        s.ruling(0, true);
        due("13 one at fault", s.customs(0), 36);
        due("13 from a year behind it", s.customs(1), 128);
        s.years(30);
        s.ruling(0, false);
        due("13 one each way", s.customs(0), 0);
        due("13 from the second on", s.customs(1), 92);
        due("13 from 30 on", s.customs(30), 92);
        s.view(29);
        due("13 to THE VIEW", s.customs(0), 36);
        due("13 from behind THE VIEW on", s.customs(30), 128);
    }

    private static void held() {
        WhoseStreet s = new WhoseStreet();
        s.meeting(0, -200, 100, 5, -40, 20, 0);
        s.meeting(0, -200, 100, 5, -40, 20, 1);
        due("14 some", s.held(0, 0), 1);
        s.ruling(0, true);
        due("14 all", s.held(0, 0), 2);
        due("14 some by what is alike", s.held(1, 0), 1);
        s.ruling(1, false);
        // Only customs in which "does not look" stands are left.
        due("14 none", s.held(1, 0), 0);
        due("14 still all", s.held(0, 0), 2);
        due("14 no meeting", s.held(2, 0), NONE);
        due("14 no year", s.held(0, 31), NONE);
        due("14 below 0", s.held(0, -1), NONE);
        s.ruling(0, false);
        due("14 no custom", s.held(0, 0), NONE);
    }

    private static void since() {
        WhoseStreet s = new WhoseStreet();
        s.meeting(0, -200, 100, 5, -40, 20, 0);
        s.meeting(0, -200, 100, 5, -40, 20, 1);
        due("15 no ruling", s.since(12), NONE);
        s.ruling(0, false);
        s.years(2);
        s.ruling(0, true);
        due("15 not yet", s.since(12), NONE);
        s.years(1);
        s.ruling(1, false);
        // From 0 on no custom goes by all; from 1 on all have "does not look".
        due("15 the least year", s.since(12), 1);
        due("15 its opposite", s.since(4), NONE);
        due("15 another word", s.since(3), NONE);
        WhoseStreet fast = new WhoseStreet();
        fast.meeting(0, -200, 101, 5, -40, 20, 0);
        fast.meeting(0, -200, 100, 5, -40, 20, 0);
        fast.ruling(0, true);
        fast.ruling(1, false);
        due("15 word 0", fast.since(0), 0);
        fast.stand(1, 0, 0, 1, 50);
        due("15 the SIGNS are those of today", fast.since(0), NONE);
        WhoseStreet wide = new WhoseStreet();
        wide.meeting(0, -200, 100, 5, -40, 20, 0);
        wide.meeting(0, -200, 100, 5, -40, 20, 0);
        wide.stand(1, 0, 0, 0, 9);
        wide.ruling(0, true);
        wide.ruling(1, false);
        due("15 word 15", wide.since(15), 0);
        due("15 not its opposite", wide.since(7), NONE);
        due("15 16", s.since(16), NONE);
        due("15 below 0", s.since(-1), NONE);
        s.view(2);
        due("15 to THE VIEW", s.since(12), NONE);
    }

    private static void stream() {
        WhoseStreet s = new WhoseStreet();
        yes("16 cars", s.stream(0, 0, 0, 1, 0));
        yes("16 the narrowest and slowest", s.stream(0, 1, 1, 1, 0));
        due("16 ten tenths of a metre", s.lights(0, 4), 10);
        yes("16 cars again", s.stream(0, 0, 0, 1, 0));
        yes("16 walkers", s.stream(3, 99, 60, 60, 999));
        no("16 stream 4", s.stream(4, 0, 0, 1, 0));
        no("16 stream below 0", s.stream(-1, 0, 0, 1, 0));
        no("16 width 100", s.stream(1, 100, 1, 1, 0));
        no("16 width below 0", s.stream(1, -1, 1, 1, 0));
        no("16 slow 0", s.stream(1, 1, 0, 1, 0));
        no("16 slow 61", s.stream(1, 1, 61, 1, 0));
        no("16 green 0", s.stream(1, 0, 1, 0, 0));
        no("16 green 61", s.stream(1, 0, 1, 61, 0));
        no("16 come 1000", s.stream(1, 0, 1, 1, 1000));
        no("16 come below 0", s.stream(1, 0, 1, 1, -1));
        due("16 two are told", s.count(7), 2);
        due("16 the greater one is GREEN", s.lights(0, 4), 61);
        // 990 tenths at 9 a SECOND are 110, at 59 a SECOND 16.8: cut upwards 17.
        yes("16 told anew", s.stream(3, 99, 59, 16, 999));
        due("16 nobody must run", s.lights(0, 4), 18);
        yes("16 slower", s.stream(3, 99, 9, 16, 999));
        due("16 110 SECONDS", s.lights(0, 4), 111);
        due("16 two are told still", s.count(7), 2);
    }

    private static void together() {
        WhoseStreet s = new WhoseStreet();
        no("17 the same", s.together(1, 1, true));
        no("17 none such", s.together(0, 4, true));
        no("17 none such first", s.together(4, 0, true));
        no("17 below 0 behind", s.together(0, -1, true));
        no("17 below 0", s.together(-1, 0, true));
        s.stream(0, 0, 0, 10, 1);
        s.stream(2, 0, 0, 20, 1);
        due("17 not at first", s.lights(0, 4), 30);
        yes("17 either way about", s.together(2, 0, true));
        due("17 may", s.lights(0, 4), 20);
        yes("17 no more", s.together(0, 2, false));
        due("17 may not", s.lights(0, 4), 30);
        yes("17 streams that are not told", s.together(1, 3, true));
    }

    private static void lights() {
        WhoseStreet s = new WhoseStreet();
        due("18 no stream", s.lights(0, 5), NONE);
        s.stream(1, 0, 0, 30, 10);
        due("18 one alone waits for what is lost", s.lights(9, 7), 90);
        due("18 its phase", s.lights(9, 1), 0);
        due("18 not told", s.lights(9, 0), NONE);
        due("18 not told, waiting", s.lights(9, 6), NONE);
        s.stream(2, 0, 0, 40, 1);
        s.stream(3, 0, 0, 20, 5);
        s.together(1, 3, true);
        s.together(2, 3, true);
        // 3 with 1: ROUND 70 (+ 2 * 1): 10 * 42 + 1 * 32 + 5 * 42. 3 with 2: 10 * 42 + 32 + 5 * 32.
        due("18 ROUND", s.lights(1, 4), 72);
        due("18 sum", s.lights(1, 5), 420 + 32 + 160);
        due("18 phase of 2", s.lights(1, 2), 1);
        due("18 phase of 3", s.lights(1, 3), 1);
        due("18 waiting of 1", s.lights(1, 7), 420);
        due("18 waiting of 2", s.lights(1, 8), 32);
        due("18 waiting of 3", s.lights(1, 9), 160);
        due("18 what 10", s.lights(1, 10), NONE);
        due("18 what below 0", s.lights(1, -1), NONE);
        due("18 lost 10", s.lights(10, 4), NONE);
        due("18 lost below 0", s.lights(-1, 4), NONE);
        lightsOfEqualWaiting();
        WhoseStreet full = new WhoseStreet();
        full.stream(0, 0, 0, 60, 1);
        full.stream(1, 0, 0, 60, 1);
        due("18 a ROUND of 120", full.lights(0, 4), 120);
        due("18 a ROUND of 122", full.lights(1, 4), NONE);
        full.stream(2, 0, 0, 1, 1);
        due("18 a ROUND of 121", full.lights(0, 4), NONE);
        full.stream(1, 0, 0, 59, 1);
        due("18 a ROUND of 120 in three", full.lights(0, 4), 120);
        full.together(0, 1, true);
        due("18 a ROUND of 63", full.lights(1, 4), 63);
    }

    private static void lightsOfEqualWaiting() {
        // Nobody comes: the shortest ROUND counts. 0 may go with 1 or with 2.
        WhoseStreet s = new WhoseStreet();
        s.stream(0, 0, 0, 10, 0);
        s.stream(1, 0, 0, 10, 0);
        s.stream(2, 0, 0, 10, 0);
        s.together(0, 1, true);
        s.together(0, 2, true);
        due("18 shortest ROUND", s.lights(0, 4), 20);
        // 0 with 1 tells 1 0 0 for the streams 2, 1, 0; 0 with 2 tells 0 1 0, which is less.
        due("18 least number, stream 2", s.lights(0, 2), 0);
        due("18 least number, stream 1", s.lights(0, 1), 1);
        due("18 least number, stream 0", s.lights(0, 0), 0);
    }

    private static void voters() {
        WhoseStreet s = new WhoseStreet();
        due("19 0 heads", s.voters(0), NONE);
        due("19 10000 heads", s.voters(10000), NONE);
        due("19 first", s.voters(1), 0);
        for (int i = 1; i < 8; i++) {
            due("19 more", s.voters(9999), i);
        }
        due("19 a ninth", s.voters(1), NONE);
        due("19 are there", s.count(8), 8);
    }

    private static void leans() {
        WhoseStreet s = new WhoseStreet();
        no("20 no class", s.leans(0, 0, 0));
        s.voters(10);
        yes("20 least", s.leans(0, 0, -99));
        yes("20 most", s.leans(0, 8, 99));
        no("20 -100", s.leans(0, 0, -100));
        no("20 100", s.leans(0, 0, 100));
        no("20 clause 9", s.leans(0, 9, 0));
        no("20 clause below 0", s.leans(0, -1, 0));
        no("20 class 1", s.leans(1, 0, 0));
        no("20 class below 0", s.leans(-1, 0, 0));
        due("20 against", s.passes(1), 0);
        due("20 comes to 0", s.passes(257), 1);
        yes("20 anew", s.leans(0, 0, 0));
        due("20 for", s.passes(1), 1);
    }

    private static void passes() {
        WhoseStreet s = new WhoseStreet();
        due("21 nobody", s.passes(0), 0);
        due("21 no set", s.passes(512), NONE);
        due("21 below 0", s.passes(-1), NONE);
        s.voters(10);
        due("21 0 is a yes", s.passes(511), 1);
        s.voters(10);
        s.leans(1, 3, -1);
        due("21 as many is not more", s.passes(8), 0);
        s.voters(1);
        due("21 one more", s.passes(8), 1);
        due("21 without it", s.passes(7), 1);
    }

    private static void most() {
        WhoseStreet s = new WhoseStreet();
        due("22 nobody", s.most(511), NONE);
        s.voters(10);
        due("22 no set", s.most(512), NONE);
        due("22 below 0", s.most(-1), NONE);
        due("22 all", s.most(511), 511);
        due("22 of none", s.most(0), 0);
        s.leans(0, 0, -1);
        s.leans(0, 1, -1);
        s.leans(0, 2, 1);
        // 2 with 0 or with 1 passes: the greater number.
        due("22 the greatest number", s.most(7), 6);
        s.voters(3);
        s.leans(1, 1, -5);
        due("22 more heads for it", s.most(7), 5);
        due("22 none left", s.most(1), 0);
        due("22 only of the set", s.most(6), 6);
    }

    private static void counted() {
        WhoseStreet s = new WhoseStreet();
        yes("23 most", s.counted(7, 30, 9999, 99999));
        yes("23 least", s.counted(0, 0, 0, 0));
        no("23 street 8", s.counted(8, 0, 0, 0));
        no("23 street below 0", s.counted(-1, 0, 0, 0));
        no("23 year 31", s.counted(0, 31, 0, 0));
        no("23 year below 0", s.counted(0, -1, 0, 0));
        no("23 hurt 10000", s.counted(0, 0, 10000, 0));
        no("23 hurt -2", s.counted(0, 0, -2, 0));
        no("23 walked 100000", s.counted(0, 0, 0, 100000));
        no("23 walked below 0", s.counted(0, 0, 0, -1));
        yes("23 missing", s.counted(0, 1, NONE, 5));
        yes("23 missing, walked of no matter", s.counted(0, 1, NONE, -5));
        no("23 missing, no street", s.counted(8, 1, NONE, 0));
        due("23 is missing", s.fell(0, 0, 1), NONE);
        yes("23 there again", s.counted(0, 1, 3, 0));
        due("23 is there", s.fell(0, 0, 1), 0);
        yes("23 missing again", s.counted(0, 0, NONE, 0));
        due("23 is missing again", s.fell(0, 0, 1), NONE);
    }

    private static void fell() {
        WhoseStreet s = new WhoseStreet();
        s.counted(2, 0, 10, 100);
        s.counted(2, 1, 10, 1);
        s.counted(2, 2, 9, 90);
        s.counted(2, 3, 9, 91);
        s.counted(2, 30, 11, 9999);
        s.counted(2, 4, 0, 0);
        due("24 not less", s.fell(2, 0, 1), 0);
        due("24 more", s.fell(2, 0, 30), 0);
        due("24 the same rate", s.fell(2, 0, 2), 1);
        due("24 a lesser rate", s.fell(2, 0, 3), 2);
        due("24 nobody walks any more", s.fell(2, 0, 4), 1);
        due("24 the years about", s.fell(2, 2, 0), NONE);
        due("24 one year", s.fell(2, 0, 0), NONE);
        due("24 missing", s.fell(2, 0, 5), NONE);
        due("24 missing first", s.fell(2, 5, 30), NONE);
        due("24 another street", s.fell(1, 0, 1), NONE);
        due("24 street 8", s.fell(8, 0, 1), NONE);
        due("24 street below 0", s.fell(-1, 0, 1), NONE);
        due("24 year 31", s.fell(2, 0, 31), NONE);
        due("24 year below 0", s.fell(2, -1, 0), NONE);
        for (int street = 0; street < 8; street++) {
            for (int year = 0; year <= 30; year++) {
                s.counted(street, year, 100 - year, 100 - street);
            }
        }
        for (int street = 0; street < 8; street++) {
            due("24 all are there", s.fell(street, 0, 30), 2);
            due("24 the last ones", s.fell(street, 29, 30), 2);
            due("24 below 0, with all there", s.fell(street, -1, 0), NONE);
            due("24 31, with all there", s.fell(street, 30, 31), NONE);
        }
        due("24 street 8, with all there", s.fell(8, 0, 1), NONE);
        due("24 street -1, with all there", s.fell(-1, 0, 1), NONE);
        s.counted(3, 0, 9999, 99999);
        s.counted(3, 1, 9998, 99999);
        due("24 great numbers", s.fell(3, 0, 1), 2);
    }

    private static void street() {
        WhoseStreet s = new WhoseStreet();
        yes("25 least", s.street(0, 0, 7, 0, 0, 0));
        yes("25 most", s.street(7, 7, 0, 999, 999, 999));
        no("25 street 8", s.street(8, 0, 1, 0, 0, 0));
        no("25 street below 0", s.street(-1, 0, 1, 0, 0, 0));
        no("25 the same place", s.street(1, 3, 3, 0, 0, 0));
        no("25 place 8", s.street(1, 0, 8, 0, 0, 0));
        no("25 place 8 first", s.street(1, 8, 0, 0, 0, 0));
        no("25 place below 0 behind", s.street(1, 0, -1, 0, 0, 0));
        no("25 slow 1000", s.street(1, 0, 1, 0, 1000, 0));
        no("25 as below 0", s.street(1, 0, 1, -1, 0, 0));
        no("25 closed below 0", s.street(1, 0, 1, 0, 0, -1));
        no("25 place below 0", s.street(1, -1, 0, 0, 0, 0));
        no("25 as 1000", s.street(1, 0, 1, 1000, 0, 0));
        no("25 slow below 0", s.street(1, 0, 1, 0, -1, 0));
        no("25 closed 1000", s.street(1, 0, 1, 0, 0, 1000));
        due("25 two are told", s.count(9), 2);
        yes("25 told anew", s.street(7, 1, 2, 3, 2, 1));
        due("25 two are told still", s.count(9), 2);
        due("25 the new HURT counts", s.plan(0, 8), 1);
    }

    private static void trip() {
        WhoseStreet s = new WhoseStreet();
        due("26 the same", s.trip(3, 3), NONE);
        due("26 place 8", s.trip(0, 8), NONE);
        due("26 place 8 first", s.trip(8, 0), NONE);
        due("26 place below 0 behind", s.trip(0, -1), NONE);
        due("26 place below 0", s.trip(-1, 0), NONE);
        for (int i = 0; i < 8; i++) {
            due("26 told", s.trip(i, (i + 1) % 8), i);
        }
        due("26 a ninth", s.trip(0, 1), NONE);
        due("26 are there", s.count(10), 8);
        due("26 none goes", s.plan(8, 8), NONE);
    }

    private static void plan() {
        WhoseStreet s = new WhoseStreet();
        s.street(0, 0, 1, 10, 5, 0);
        s.street(3, 2, 1, 11, 6, 0);
        s.street(5, 0, 2, 10, 10, 10);
        due("27 without trips all that is best", s.plan(0, 8), 10);
        due("27 of equal ones the least number", s.plan(0, 5), 0);
        due("27 closed", s.plan(0, 0), 2);
        due("27 not told", s.plan(0, 1), NONE);
        due("27 none LATE", s.plan(8, 9), 0);
        s.trip(1, 0);
        due("27 slow leads there, LATE", s.plan(1, 0), 1);
        due("27 one LATE", s.plan(1, 9), 1);
        due("27 its sum", s.plan(1, 8), 15);
        due("27 not LATE", s.plan(0, 0), 0);
        due("27 the other is closed", s.plan(0, 3), 2);
        due("27 the sum without LATE ones", s.plan(0, 8), 20);
        due("27 late 9", s.plan(9, 8), NONE);
        due("27 late below 0", s.plan(-1, 8), NONE);
        due("27 what 10", s.plan(0, 10), NONE);
        due("27 what below 0", s.plan(0, -1), NONE);
        s.trip(1, 0);
        due("27 the same trip twice is LATE twice", s.plan(1, 9), 0);
        due("27 both LATE", s.plan(2, 9), 2);
        s.trip(7, 6);
        due("27 a trip that can't go", s.plan(8, 9), NONE);
        due("27 nor a street of it", s.plan(8, 0), NONE);
        s.street(7, 7, 6, 1, 2, 3);
        due("27 it goes", s.plan(8, 7), 0);
        // By 0, or by 3 and 5: now the sums are equal, and street 3 counts for more in the number.
        s.street(3, 2, 1, 10, 5, 0);
        due("27 of equal ones the least number, street 0", s.plan(0, 0), 2);
        due("27 of equal ones the least number, street 3", s.plan(0, 3), 0);
        planOfAll();
    }

    /** Eight streets in a ring and eight trips along them. */
    private static void planOfAll() {
        WhoseStreet s = new WhoseStreet();
        for (int i = 0; i < 8; i++) {
            s.street(i, i, (i + 1) % 8, 10, 2, 1);
            s.trip((i + 1) % 8, i);
        }
        // One closed street is led round by the others; a second one is not.
        due("27 all LATE", s.plan(8, 9), 8);
        due("27 all LATE, the sum", s.plan(8, 8), 7 * 2 + 1);
        due("27 all LATE, closed", s.plan(8, 0), 2);
        due("27 all LATE, slow", s.plan(8, 7), 1);
        due("27 seven LATE", s.plan(7, 9), 7);
        due("27 seven LATE, the sum", s.plan(7, 8), 10 + 6 * 2 + 1);
        due("27 none LATE", s.plan(0, 9), 0);
        due("27 none LATE, the sum", s.plan(0, 8), 7 * 10 + 1);
        for (int i = 0; i < 8; i++) {
            s.street(i, i, (i + 1) % 8, 1, 1, 1);
        }
        due("27 all as they are", s.plan(8, 9), 0);
        due("27 all as they are, the sum", s.plan(8, 8), 8);
        for (int i = 0; i < 8; i++) {
            due("27 as it is", s.plan(8, i), 0);
        }
    }

    private static void count() {
        WhoseStreet s = new WhoseStreet();
        s.years(4);
        s.meeting(4, -200, 100, 5, -40, 20, 0);
        s.meeting(0, -200, 100, 0, -40, 20, 0);
        s.meeting(0, -200, 100, 5, -40, 20, 0);
        s.ruling(0, true);
        s.years(1);
        s.ruling(0, true);
        s.ruling(1, false);
        s.view(4);
        Checks.law(s, "let a = 1 ;", 0);
        Checks.law(s, "let a = ; ", 0);
        s.stream(3, 0, 0, 1, 1);
        s.voters(5);
        s.voters(5);
        s.street(6, 1, 2, 0, 0, 0);
        s.trip(1, 2);
        Checks.feed(s, "abc");
        int[] want = {5, 4, 3, 1, 3, 1, 3, 1, 2, 1, 1, 2};
        for (int what = 0; what < want.length; what++) {
            due("28 count(" + what + ")", s.count(what), want[what]);
        }
        due("28 what 12", s.count(12), NONE);
        due("28 what below 0", s.count(-1), NONE);
        s.stand(0, 0, 0, 0, 0);
        due("28 MET is told anew with a STAND", s.count(11), 2);
    }
}
