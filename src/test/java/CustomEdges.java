/** The document's part 4, and promises 12 to 15: RULINGS and customs. */
final class CustomEdges extends Edges {
    /** For each SIGN a MEETING that differs from withMeeting's in that SIGN alone. */
    private static WhoseStreet withTwoThatDifferIn(int sign) {
        WhoseStreet s = withMeeting();
        switch (sign) {
            case 0:
                s.meeting(0, -200, 101, 5, -40, 20, 0);
                break;
            case 3:
                // They MEET in SECOND 1: seen is 1.
                s.meeting(0, -100, 100, 5, -20, 20, 0);
                break;
            default:
                addMeeting(s, sign == 1 ? 2 : sign == 2 ? 4 : sign == 4 ? 1 : 0);
                s.stand(1, sign == 5 ? -9999 : 0, -999, sign == 6 ? 1 : 0, sign == 7 ? 9 : 50);
                break;
        }
        due("they differ in SIGN " + sign + " alone", s.look(0, 5) ^ s.look(1, 5), 1 << sign);
        return s;
    }

    @Sentence("CUSTOM. SIGNS of a MEETING, as bits: 0 SPEED is above 100; 1 a child; 2 old; 3 seen is 2 at least; 4 he LOOKS; 5 a"
        + " STAND; 6 FLOOR is not dry; 7 the width is below 10.")
    static void signs() {
        WhoseStreet s = withMeeting();
        due("SPEED 100, grown, seen 2, dry, width 50", s.look(0, 5), 8);
        for (int sign = 0; sign < 8; sign++) {
            due("SIGN " + sign, withTwoThatDifferIn(sign).look(1, 5), 8 ^ 1 << sign);
        }
        s.stand(0, 0, 0, 2, 10);
        due("ice is not dry either, and 10 is not below 10", s.look(0, 5), 8 | 64);
        s.stand(0, 0, 0, 0, 9);
        due("9 is below 10", s.look(0, 5), 8 | 128);
        s.stand(0, -1, -1, 0, 0);
        due("seen 0", s.look(0, 5), 32 | 128);
        s.meeting(0, -9999, 300, 5, -999, 1, 5);
        due("seen 60, 300, old, and he LOOKS", s.look(1, 5), 1 | 4 | 8 | 16);
    }

    @Sentence("A RULING, 80 at most, is told in the YEAR NOW: a judge held the DRIVER of a MEETING at fault (yes) or not.")
    static void eightyRulings() {
        WhoseStreet s = withMeeting();
        s.years(4);
        for (int i = 0; i < 79; i++) {
            yes("a RULING", s.ruling(0, true));
        }
        s.years(1);
        yes("the 80th", s.ruling(0, false));
        no("an 81st", s.ruling(0, true));
        due("80 are there", s.count(4), 80);
        due("told in the YEARS 4 and 5", s.customs(4), 0);
        due("told in the YEAR 5, not at fault", s.customs(5), 92);
        s.view(4);
        due("79 in the YEAR 4", s.count(5), 79);
        due("at fault", s.customs(4), 36);
        s.view(3);
        due("none ahead of it", s.count(5), 0);
    }

    @Sentence("A CUSTOM is: a SIGN or its opposite (16 of these, WORDS OF IT: SIGN, and SIGN + 8 for its opposite), or two of them of"
        + " different SIGNS together (112): the DRIVER is at fault just if it is so.")
    static void customsThereAre() {
        WhoseStreet s = withMeeting();
        due("16 and 112", s.customs(0), 16 + 112);
        s.ruling(0, true);
        // 8 WORDS are so, and 28 pairs of them.
        due("at fault", s.customs(0), 8 + 28);
        WhoseStreet not = withMeeting();
        not.ruling(0, false);
        due("not at fault", not.customs(0), 8 + 112 - 28);
        for (int sign = 0; sign < 8; sign++) {
            WhoseStreet two = withTwoThatDifferIn(sign);
            two.ruling(0, true);
            two.ruling(1, false);
            // The WORD alone, and with each of the 7 others that are so.
            due("a WORD in all of them", two.customs(0), 8);
            int word = sign == 3 ? 3 : sign + 8;
            for (int w = 0; w < 16; w++) {
                due("WORD " + w, two.since(w), w == word ? 0 : NONE);
            }
            WhoseStreet about = withTwoThatDifferIn(sign);
            about.ruling(1, true);
            about.ruling(0, false);
            for (int w = 0; w < 16; w++) {
                due("its opposite, WORD " + w, about.since(w), w == (word + 8) % 16 ? 0 : NONE);
            }
        }
    }

    @Sentence("POSSIBLE from a YEAR on: all RULINGS told from then on to THE VIEW go by it.")
    static void possibleFromAYearToTheView() {
        WhoseStreet s = withMeeting();
        s.years(10);
        s.ruling(0, true);
        s.years(10);
        s.ruling(0, false);
        s.years(10);
        due("from 0", s.customs(0), 0);
        due("from 10", s.customs(10), 0);
        due("from 11", s.customs(11), 92);
        due("from 20", s.customs(20), 92);
        due("from 21", s.customs(21), 128);
        s.view(20);
        due("to 20", s.customs(10), 0);
        s.view(19);
        due("to 19", s.customs(10), 36);
        due("from behind THE VIEW", s.customs(20), 128);
        s.view(9);
        due("to 9", s.customs(0), 128);
    }

    @Sentence("HELD of a MEETING from a YEAR on: 2 at fault by all POSSIBLE customs, 1 by some, 0 by none; none if no custom is"
        + " POSSIBLE.")
    static void heldByCustoms() {
        WhoseStreet s = withTwoThatDifferIn(4);
        due("by some of all", s.held(0, 0), 1);
        s.ruling(0, true);
        due("by all", s.held(0, 0), 2);
        due("by some", s.held(1, 0), 1);
        s.ruling(1, false);
        due("by all still", s.held(0, 0), 2);
        due("by none", s.held(1, 0), 0);
        s.years(1);
        s.ruling(1, true);
        due("none is POSSIBLE", s.held(0, 0), NONE);
        due("from 1 on", s.held(1, 1), 2);
        due("from 2 on", s.held(1, 2), 1);
        s.view(0);
        due("to 0", s.held(1, 0), 0);
        byOneCustom();
    }

    /** A child whose opposite in all SIGNS but LOOKS is an old one: they have nothing but WORD 12 in common. */
    private static WhoseStreet withOpposites(int speed) {
        WhoseStreet s = new WhoseStreet();
        s.meeting(0, -200, speed, 5, -40, 20, 2);
        s.meeting(0, -100, 101, 5, -20, 20, 4);
        s.stand(1, -9999, -999, 1, 9);
        s.meeting(0, -200, 100, 5, -40, 20, 2);
        due("the one", s.look(0, 5), (speed > 100 ? 1 : 0) | 2 | 8);
        due("its opposite", s.look(1, 5), 1 | 4 | 32 | 64 | 128);
        return s;
    }

    private static void byOneCustom() {
        WhoseStreet s = withOpposites(100);
        addMeeting(s, 3);
        s.ruling(0, true);
        s.ruling(3, false);
        due("WORD 12 alone and with 7 others", s.customs(0), 8);
        due("by one of them", s.held(1, 0), 1);
        due("by all", s.held(0, 0), 2);
        s.ruling(1, true);
        due("one is left", s.customs(0), 1);
        due("by all, which is one", s.held(1, 0), 2);
        due("by none, which is one", s.held(3, 0), 0);
    }

    @Sentence("SINCE of a WORD OF IT: the least YEAR from which on (to THE VIEW) customs are POSSIBLE, and all of them have that WORD;"
        + " none without one, or if no RULING was told from that YEAR on.")
    static void sinceWhen() {
        WhoseStreet s = withTwoThatDifferIn(4);
        due("no RULING", s.since(12), NONE);
        s.years(3);
        // The other way about: he who looks, and not he who does not.
        s.ruling(1, true);
        s.ruling(0, false);
        s.years(5);
        due("not all have WORD 12", s.since(12), NONE);
        due("all have WORD 4, from 0 on", s.since(4), 0);
        s.ruling(0, true);
        due("no custom from 0 to 3, more from 4 on", s.since(4), NONE);
        due("not all have it", s.since(12), NONE);
        s.years(1);
        s.ruling(1, false);
        due("from 4 on all have WORD 12", s.since(12), 4);
        due("and its opposite none", s.since(4), NONE);
        s.years(21);
        due("NOW is 30", s.count(0), 30);
        due("from 4 on still", s.since(12), 4);
        s.view(9);
        due("to 9", s.since(12), 4);
        s.view(8);
        due("to 8", s.since(12), NONE);
        s.view(7);
        due("to 7", s.since(4), 0);
        s.view(3);
        due("to 3", s.since(4), 0);
        s.view(2);
        due("to 2", s.since(4), NONE);
        s.view(30);
        s.ruling(0, true);
        s.ruling(1, false);
        due("in the last YEAR, too", s.since(12), 4);
        s.ruling(1, true);
        due("no custom from any YEAR on", s.since(12), NONE);
        ofOneAndOfTwo();
    }

    private static void ofOneAndOfTwo() {
        WhoseStreet one = withOpposites(100);
        addMeeting(one, 3);
        one.ruling(0, true);
        one.ruling(3, false);
        one.ruling(1, true);
        due("one custom is left", one.customs(0), 1);
        due("it has WORD 12", one.since(12), 0);
        // At fault if SPEED is above 100, whatever else; not so the same child at 100.
        WhoseStreet two = withOpposites(101);
        two.ruling(0, true);
        two.ruling(1, true);
        two.ruling(2, false);
        due("WORD 0 alone and with 12", two.customs(0), 2);
        due("both have WORD 0", two.since(0), 0);
        due("one alone has WORD 12", two.since(12), NONE);
    }

    @Sentence("A RULING: true; false: no such MEETING, 80 were told.")
    static void promise12() {
        WhoseStreet s = new WhoseStreet();
        no("none is there", s.ruling(0, true));
        addMeeting(s, 0);
        no("MEETING -1", s.ruling(-1, true));
        no("MEETING 1 of 1", s.ruling(1, false));
        no("MEETING 40", s.ruling(40, false));
        for (int n : FAR) {
            no("MEETING " + n, s.ruling(n, true));
        }
        due("what is refused is not told", s.count(4), 0);
        for (int i = 1; i <= 80; i++) {
            yes("RULING " + i, s.ruling(0, false));
            due("so many", s.count(4), i);
        }
        no("an 81st", s.ruling(0, true));
        due("80 were told", s.count(4), 80);
        due("the 81st does not count", s.customs(0), 92);
    }

    @Sentence("How many customs are POSSIBLE from a YEAR on; NONE: no such YEAR.")
    static void promise13() {
        WhoseStreet s = withMeeting();
        due("all", s.customs(0), 128);
        due("all from 30 on, behind NOW", s.customs(30), 128);
        due("YEAR -1", s.customs(-1), NONE);
        due("YEAR 31", s.customs(31), NONE);
        for (int year : FAR) {
            due("YEAR " + year, s.customs(year), NONE);
        }
        s.ruling(0, true);
        s.ruling(0, false);
        due("none", s.customs(0), 0);
        due("all from 1 on", s.customs(1), 128);
        s.years(30);
        s.ruling(0, true);
        due("from the last YEAR on", s.customs(30), 36);
    }

    @Sentence("HELD; NONE: none such, none.")
    static void promise14() {
        WhoseStreet s = withMeeting();
        due("some", s.held(0, 0), 1);
        due("YEAR 30", s.held(0, 30), 1);
        due("YEAR -1", s.held(0, -1), NONE);
        due("YEAR 31", s.held(0, 31), NONE);
        due("MEETING -1", s.held(-1, 0), NONE);
        due("MEETING 1 of 1", s.held(1, 0), NONE);
        for (int n : FAR) {
            due("MEETING " + n, s.held(n, 0), NONE);
            due("YEAR " + n, s.held(0, n), NONE);
        }
        s.ruling(0, true);
        s.ruling(0, false);
        due("none", s.held(0, 0), NONE);
    }

    @Sentence("SINCE of a WORD OF IT (0 to 15); NONE: none such, none.")
    static void promise15() {
        WhoseStreet first = withTwoThatDifferIn(0);
        first.ruling(1, true);
        first.ruling(0, false);
        due("WORD 0", first.since(0), 0);
        WhoseStreet last = withTwoThatDifferIn(7);
        last.ruling(0, true);
        last.ruling(1, false);
        due("WORD 15", last.since(15), 0);
        due("WORD 7", last.since(7), NONE);
        for (WhoseStreet s : new WhoseStreet[] {first, last}) {
            due("WORD -1", s.since(-1), NONE);
            due("WORD 16", s.since(16), NONE);
            due("WORD 32", s.since(32), NONE);
            due("WORD 47", s.since(47), NONE);
            for (int word : FAR) {
                due("WORD " + word, s.since(word), NONE);
            }
        }
    }
}
