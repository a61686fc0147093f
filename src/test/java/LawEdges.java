/** The document's part 3, and promises 8 to 11: the TAPE and BY-LAWS. */
final class LawEdges extends Edges {
    private static final String[] WORDS = {"let", "limit", "when", "fault", "driver", "walker", "both", "none", "and", "or",
        "not", "speed", "pace", "seen", "met", "looks", "kind", "floor", "width", "hidden", "year"};
    private static final String[] PARTS = {"speed", "pace", "seen", "met", "looks", "kind", "floor", "width", "hidden",
        "limit", "year"};

    private static void fault(String text, int kind, int place) {
        due("[" + text + "]", Checks.law(new WhoseStreet(), text, 0), kind + 16 * place);
    }

    private static void right(String text) {
        due("[" + text + "]", Checks.law(new WhoseStreet(), text, 0), 0);
    }

    /** The text is read up to the token at its end, which can't stand there. */
    private static void wrongEnd(String text, String token) {
        fault(text + token, 1, text.length());
    }

    /** What E comes to is compared in YEAR 6 with limit 333, for the MEETING 0. */
    private static void worth(WhoseStreet s, String e, int want) {
        String number = want < 0 ? "0 - " + -want : Integer.toString(want);
        String text = "limit 333 when 1 ; fault walker when (" + e + ") = " + number + " ; fault both when 1 ;";
        due("[" + text + "]", Checks.law(s, text, 6), 0);
        due(e + " is " + want, s.whose(0, 6, 0), 2);
    }

    private static void worth(String e, int want) {
        worth(withMeeting(), e, want);
    }

    private static String lines(int n, String line) {
        return line.repeat(n);
    }

    private static String lets(int n) {
        StringBuilder text = new StringBuilder();
        for (int i = 0; i < n; i++) {
            text.append("let ").append((char) ('p' + i)).append("=1;");
        }
        return text.toString();
    }

    @Sentence("BY-LAWS. The TAPE has at most 1,000 signs, 10 and 32 .. 126; what reads it takes it: it is empty then.")
    static void theTape() {
        WhoseStreet s = new WhoseStreet();
        for (int sign = 0; sign < 256; sign++) {
            int before = s.count(6);
            boolean taken = sign == 10 || sign >= 32 && sign <= 126;
            due("sign " + sign, s.feed(sign, 0, 0), taken ? before + 1 : before);
        }
        due("96 signs", s.count(6), 96);
        due("they are read", s.law(0), 1 + 16 * 2);
        due("and taken", s.count(6), 0);
        due("so it is an empty one then", s.law(0), 0);
        Checks.feed(s, " ".repeat(999) + "?");
        due("1,000", s.count(6), 1000);
        due("the last of them counts", s.law(0), 1 + 16 * 999);
        Checks.feed(s, " ".repeat(1000) + "?");
        due("1,001", s.count(6), 1000);
        due("the last of them is not there", s.law(0), 0);
    }

    @Sentence("TOKENS, each as long as can be, blanks (10, 32) between where one likes: WORDS (letters a .. z, 8 at most), NUMBERS"
        + " (1 to 4 digits; a letter may stand right behind), the signs ( ) < = + - * and the semicolon.")
    static void tokens() {
        right("let a=(1)<2+3-4*5;");
        right("\n \nlet\na\n=\n(\n1\n)\n<\n2\n+\n3\n-\n4\n*\n5\n;\n");
        right("let abcdefgh=1;let z=abcdefgh;let abcdefg=z;");
        right("let a=0;let b=9999;let c=0000;");
        right("let a=1and 2or 3;limit 5when 1;fault both when1;");
        fault("leta=1;", 1, 0);
        fault("let a = 12 3 ;", 1, 11);
        fault("let a1 = 1 ;", 1, 5);
        fault("let a b = 1 ;", 1, 6);
        fault("limit 9 9 when 1 ;", 1, 8);
    }

    @Sentence("All else (a longer WORD or NUMBER, too, at its first sign) is none.")
    static void whatIsNoToken() {
        fault("let abcdefghi = 1 ;", 1, 4);
        fault("let a = 12345 ;", 1, 8);
        fault("limit 00001 when 1 ;", 1, 6);
        fault("let a = 1 ; faultfault both when 1 ;", 1, 12);
        String good = "()<=+-*;abcdefghijklmnopqrstuvwxyz0123456789 ";
        for (char c = 32; c <= 126; c++) {
            if (good.indexOf(c) < 0) {
                fault("let a = " + c, 1, 8);
                fault("let a = 1 " + c + " ;", 1, 10);
                fault("let " + c + "a = 1 ;", 1, 4);
                fault("let a" + c + " = 1 ;", 1, 5);
                fault(" " + c, 1, 1);
            }
        }
    }

    @Sentence("BY-LAW: any number of let NAME = E ; limit N when E ; fault WHO when E ;")
    static void anyNumberOfLines() {
        right("");
        right("\n");
        right("let a = 1 ;");
        right("limit 1 when 1 ;");
        right("fault both when 1 ;");
        right("fault both when 1 ; limit 1 when 1 ; let a = 1 ; limit 1 when 1 ; let b = 1 ;");
        String[] let = {"let ", "a ", "= ", "1 ", ""};
        String[] limit = {"limit ", "1 ", "when ", "1 ", ""};
        String[] fault = {"fault ", "both ", "when ", "1 ", ""};
        for (String[] line : new String[][] {let, limit, fault}) {
            String text = "";
            for (String token : line) {
                text += token;
                if (!text.isEmpty()) {
                    wrongEnd(text, "");
                    wrongEnd(text, "?");
                    wrongEnd(text, "let");
                }
            }
        }
        fault(";", 1, 0);
        fault("let a = 1 ; ;", 1, 12);
        fault("limit a when 1 ;", 1, 6);
        fault("limit 1 = 1 ;", 1, 8);
        fault("let a when 1 ;", 1, 6);
        fault("let = 1 ;", 1, 4);
        fault("limit when 1 ;", 1, 6);
        fault("fault when 1 ;", 1, 6);
    }

    @Sentence("WHO: driver, walker, both, none.")
    static void whoThereIs() {
        WhoseStreet s = withMeeting();
        String[] who = {"none", "driver", "walker", "both"};
        for (int i = 0; i < who.length; i++) {
            due("fault " + who[i], Checks.law(s, "fault " + who[i] + " when 1 ;", 0), 0);
            due("WHOSE", s.whose(0, 0, 0), i);
            due("WHY", s.whose(0, 0, 1), 0);
        }
        for (String word : WORDS) {
            boolean may = "none driver walker both".contains(word);
            fault("fault " + word, 1, may ? 6 + word.length() : 6);
        }
        fault("fault a", 1, 6);
        fault("fault 1", 1, 6);
    }

    @Sentence("E: TEST { and TEST or or TEST }.")
    static void testsInARow() {
        right("let a = 1 and 2 or 3 and 4 and 5 or 6 or 7;");
        wrongEnd("let a = ", "and");
        wrongEnd("let a = ", "or");
        wrongEnd("let a = 1 and ", ";");
        wrongEnd("let a = 1 and ", "or");
        wrongEnd("let a = 1 or ", "");
        wrongEnd("let a = 1 or 2 ", "3");
    }

    @Sentence("TEST: SUM [ < SUM or = SUM ].")
    static void oneComparisonAtMost() {
        right("let a = 1 ; let b = 1 < 2 ; let c = 1 = 2 ;");
        right("let a = 1 < 2 and 2 = 3 or 4 < 5 ;");
        right("let a = ( 1 < 2 ) = ( 3 = 4 ) ;");
        right("let a = 1 < not ( 2 < 3 ) + 4 ;");
        for (String one : new String[] {"<", "="}) {
            for (String two : new String[] {"<", "="}) {
                wrongEnd("let a = 1 " + one + " 2 ", two);
                wrongEnd("let a = 1 " + one + " 2 + 3 * ( 4 < 5 ) ", two);
                wrongEnd("let a = ( 1 " + one + " 2 ", two);
                wrongEnd("let a = 0 or 1 " + one + " 2 ", two);
                wrongEnd("let a = 1 " + one + " ", two);
            }
        }
    }

    @Sentence("SUM: TERM { + or - TERM }.")
    static void termsInARow() {
        worth("10 - 3 - 2", 5);
        worth("10 - 3 + 2", 9);
        worth("1 + 2 * 3 - 4", 3);
        worth("5 < 2 + 4", 1);
        wrongEnd("let a = ", "-");
        wrongEnd("let a = ", "+");
        wrongEnd("let a = 1 + ", "-");
        wrongEnd("let a = 1 - ", ";");
    }

    @Sentence("TERM: PART { * PART }.")
    static void partsInARow() {
        worth("2 * 3 * 4", 24);
        worth("not 0 * 7", 7);
        wrongEnd("let a = ", "*");
        wrongEnd("let a = 1 * ", "*");
        wrongEnd("let a = 1 * ", "");
        wrongEnd("let a = 2 ", "(");
        wrongEnd("let a = 2 ", "speed");
        wrongEnd("let a = 2 ", "not");
        wrongEnd("let a = 2 ", "a");
    }

    @Sentence("PART: N, speed, pace, seen, met, looks, kind, floor, width, hidden, limit, year, a NAME, not PART, ( E ); no PART"
        + " lies within 4 of not and ( ).")
    static void howDeepAPartLies() {
        for (String part : PARTS) {
            right("let a = " + part + " ;");
            right("let a = not ( not " + part + " ) ;");
            fault("let a = not ( not ( " + part, 5, 20);
        }
        right("let a = 1 ; let b = not not not a + ( ( ( a ) ) ) ;");
        right("let a = ( ( not 1 ) ) + not ( not 1 ) + ( not not 1 ) + not not ( 1 ) ;");
        fault("let a = 1 ; let b = not not not not a ;", 5, 36);
        fault("let a = ( ( ( ( 1 ) ) ) ) ;", 5, 16);
        fault("let a = ( not ( not 1 ) ) ;", 5, 20);
        // What was closed is not around what follows.
        right("let a = ( 1 ) + ( ( 2 ) ) + not not not 3 + not ( not 4 ) + ( ( ( 5 ) + 6 ) + 7 ) ;");
        right("let a = ( ( not 1 + not 2 ) + not ( 3 ) ) ; let b = ( ( ( 1 ) ) ) ;");
        fault("let a = ( ( not 1 + not not 2 ) ) ;", 5, 28);
        for (String word : WORDS) {
            if (!(" " + String.join(" ", PARTS) + " not ").contains(" " + word + " ")) {
                wrongEnd("let a = ", word);
            }
        }
        wrongEnd("let a = ( ", ")");
        wrongEnd("let a = ( 1 ", ";");
        wrongEnd("let a = ( 1 ", "");
        wrongEnd("let a = ( 1 ) ", ")");
        wrongEnd("let a = not ", ";");
    }

    @Sentence("(What stands in [ ] may be left out, { } are for \"any more\"; and, or go from the left alike.)")
    static void fromTheLeftAlike() {
        worth("1 or 0 and 0", 0);
        worth("0 and 0 or 1", 1);
        worth("1 or 1 and 0 or 0", 0);
        worth("0 and 1 or 1 and 1", 1);
        worth("1 or 0 and ( 0 or 0 )", 0);
        worth("1 or ( 0 and 0 )", 1);
        right("let a = " + lines(400, "1+") + "1;");
        worth("0" + lines(100, " or 0") + " or 5", 1);
        worth("1" + lines(100, "+1"), 101);
    }

    @Sentence("NAMES are other WORDS than all those above, 8 at most, each told by let once, ahead of where it stands.")
    static void namesThereCanBe() {
        for (String word : WORDS) {
            fault("let " + word + " = 1 ;", 1, 4);
            right("let " + word.charAt(0) + " = 1 ;");
            right("let x" + word.substring(1) + " = 1 ;");
        }
        right(lets(8) + "fault both when p+q+r+s+t+u+v+w;");
        fault(lets(8) + "let x", 5, 68);
        right(lines(12, "limit 1 when 1;") + lets(8));
        fault(lines(12, "limit 1 when 1;") + lets(7) + "let x = w ;", 2, 180 + 56 + 8);
        WhoseStreet s = withMeeting();
        due("8 NAMES with other lines between them", Checks.law(s, "let a=1;fault both when 0;let b=a+1;limit 1 when 0;let c=b+1;"
            + "limit 1 when 0;let d=c+1;let e=d+1;limit 1 when 0;let f=e+1;let g=f+1;fault both when 0;let h=g+1;"
            + "fault walker when h=8 and a=1 and e=5;", 0), 0);
        due("each is what it was told", s.whose(0, 0, 0), 2);
        fault(lets(7) + "let p", 3, 60);
        right(lets(7) + "let x=p;");
        fault("fault both when a ; let a = 1 ;", 2, 16);
        right("let a = 1 ; fault both when a ;");
    }

    @Sentence("N of limit 1 to 999.")
    static void limits() {
        fault("limit 0 when 1 ;", 4, 6);
        right("limit 1 when 1 ;");
        right("limit 0001 when 1 ;");
        right("limit 999 when 1 ;");
        right("limit 0999 when 1 ;");
        fault("limit 1000 when 1 ;", 4, 6);
        fault("limit 9999 when 1 ;", 4, 6);
        fault("limit 0000 when 1 ;", 4, 6);
        WhoseStreet s = withMeeting();
        Checks.law(s, "limit 1 when year = 0 ; limit 0999 when 1 ;", 0);
        due("the least", s.whose(0, 0, 2), 1);
        due("the greatest", s.whose(0, 1, 2), 999);
    }

    @Sentence("20 lines at most.")
    static void twentyLines() {
        right(lines(20, "fault both when 1;"));
        fault(lines(20, "fault both when 1;") + "fault both when 1;", 5, 360);
        WhoseStreet s = withMeeting();
        due("20 lines", Checks.law(s, lines(19, "fault both when 0;") + "fault walker when 1;", 0), 0);
        due("the last one holds", s.whose(0, 0, 1), 19);
        due("its WHO", s.whose(0, 0, 0), 2);
        due("20 lines with the limit last", Checks.law(s, lets(8) + lines(11, "limit 9 when 0;") + "limit 8 when 1;", 0), 0);
        due("its limit", s.whose(0, 0, 2), 8);
        s.meeting(0, -1, 1, 0, -1, 1, 0);
        due("a 21st refuses all", Checks.law(s, lines(21, "limit 7 when 1;"), 0), 5 + 16 * 300);
        due("so it is not told", s.count(3), 2);
    }

    @Sentence("FAULTS, kind + 16 * the place (from 0) of a token, the end being one at the text's length: of the first token from"
        + " the left that is wrong the least:")
    static void theFirstTokenAndTheLeastKind() {
        fault("?", 1, 0);
        fault(" \n?", 1, 2);
        fault("let", 1, 3);
        fault("let a = 1", 1, 9);
        fault("let a = 1 \n ", 1, 12);
        fault("let a = b ; limit 0 when ?", 2, 8);
        fault("limit 0 when b ;", 4, 6);
        fault(" ".repeat(999) + "?", 1, 999);
        fault("let a =" + " ".repeat(993), 1, 1000);
        // Least of two kinds at one token.
        fault("let a = not not not not b ;", 2, 24);
        fault("let a = not not not not 12345 ;", 1, 24);
        fault("let a = not not not not = ;", 1, 24);
        fault("let a = not not not not", 1, 23);
        fault(lets(8) + "let p = 1 ;", 3, 68);
        fault(lets(8) + "let let = 1 ;", 1, 68);
        fault(lets(8) + "let 1 = 1 ;", 1, 68);
        fault(lines(20, "limit 1 when 1;") + "limits", 1, 300);
    }

    @Sentence("1 it is none, or can't stand there;")
    static void kind1() {
        fault("let a = 1 ; !", 1, 12);
        fault("a = 1 ;", 1, 0);
        fault("1", 1, 0);
        fault("speed", 1, 0);
        fault("when", 1, 0);
        fault("let a = 1 b ;", 1, 10);
        fault("fault b when 1 ;", 1, 6);
        fault("limit b when 1 ;", 1, 6);
        fault("limit 1 when 1 )", 1, 15);
        fault("limit 10000 when 1 ;", 1, 6);
        fault("fault both fault", 1, 11);
        fault("fault both b", 1, 11);
        fault(lines(20, "limit 1 when 1;") + "when", 1, 300);
        fault(lines(20, "limit 1 when 1;") + ";", 1, 300);
    }

    @Sentence("2 a NAME that is not told ahead (by its whole line);")
    static void kind2() {
        fault("let a = a ;", 2, 8);
        fault("let a = 1 + a ;", 2, 12);
        fault("let a = b ; let b = 1 ;", 2, 8);
        fault("let ab = 1 ; let c = a ;", 2, 21);
        fault("let a = 1 ; let b = ab ;", 2, 20);
        fault("limit 1 when driverx ;", 2, 13);
        right("let a = 1 ; let b = a ;");
    }

    @Sentence("3 a NAME that is told;")
    static void kind3() {
        fault("let a = 1 ; let a = 1 ;", 3, 16);
        fault("let a = 1 ; fault both when 1 ; let b = 1 ; let a", 3, 48);
        fault("let abcdefgh = 1 ; let abcdefgh", 3, 23);
        right("let abcdefgh = 1 ; let abcdefgi = 1 ; let abcdefg = 1 ; let bcdefgh = 1 ;");
        right("let a=1;let aa=1;let b=1;let bb=1;let ab=1;let ba=1;let z=1;let zz=1;");
        right("let bbbbbbbb=1;let bbbbbbb=1;let zzzzzzzz=1;let zzzzzzz=1;let aaaaaaaa=1;let aaaaaaa=1;let az=1;let za=1;");
    }

    @Sentence("4 a NUMBER that is not as told;")
    static void kind4() {
        fault("limit 0", 4, 6);
        fault("limit 1000", 4, 6);
        fault("let a = 1 ; limit 0 when a ;", 4, 18);
        right("fault both when 0 ; fault both when 1000 ; fault both when 9999 ;");
    }

    @Sentence("5 one too many: the words let, limit, fault of a 21st line; the ninth NAME; not, or a PART, within 4 others.")
    static void kind5() {
        String twenty = lines(20, "limit 1 when 1;");
        fault(twenty + "let", 5, 300);
        fault(twenty + " limit", 5, 301);
        fault(twenty + "\nfault", 5, 301);
        fault(lets(8) + "let x = 1 ;", 5, 68);
        String four = "fault both when not ( ( not ";
        fault(four + "not", 5, 28);
        fault(four + "(", 5, 28);
        fault(four + "0", 5, 28);
        fault(four + "year", 5, 28);
        fault("let a=1;fault both when ( not not ( a", 5, 36);
        fault("let a = not not not not not 1 ;", 5, 24);
    }

    @Sentence("A BY-LAW without a FAULT is told in the YEAR NOW for a YEAR (0 to 30) and all behind it until the next YEAR for which"
        + " one is told (of one YEAR the latest told); 16 at most.")
    static void forWhichYears() {
        WhoseStreet s = withMeeting();
        due("for YEAR 30", Checks.law(s, "fault driver when 1 ;", 30), 0);
        due("not in 29", s.whose(0, 29, 3), NONE);
        due("in 30", s.whose(0, 30, 3), 0);
        due("for YEAR 0", Checks.law(s, "fault walker when 1 ;", 0), 0);
        due("in 0", s.whose(0, 0, 3), 1);
        due("and all behind it", s.whose(0, 29, 3), 1);
        due("until the next", s.whose(0, 30, 3), 0);
        due("again for YEAR 30", Checks.law(s, "fault both when 1 ;", 30), 0);
        due("of one YEAR the latest told", s.whose(0, 30, 3), 2);
        due("for YEAR 10", Checks.law(s, "", 10), 0);
        due("in 9", s.whose(0, 9, 3), 1);
        due("in 10", s.whose(0, 10, 3), 3);
        due("in 29", s.whose(0, 29, 3), 3);
        due("for YEAR -1", Checks.law(s, "", -1), -1);
        due("for YEAR 31", Checks.law(s, "", 31), -1);
        due("with a FAULT", Checks.law(s, "let", 10), 1 + 16 * 3);
        due("it is not told", s.count(3), 4);
        s.years(1);
        for (int i = 4; i < 16; i++) {
            due("more", Checks.law(s, "", 20), 0);
            due("in 20", s.whose(0, 20, 3), i);
        }
        due("a 17th", Checks.law(s, "", 20), -1);
        due("16 are there", s.count(3), 16);
        s.view(0);
        due("told in the YEAR NOW, which was 1", s.whose(0, 20, 3), 3);
    }

    @Sentence("In E: speed, pace, floor; seen: the SECOND when they MET (60 if they did not) less FIRST (0 if the DRIVER never"
        + " SEES);")
    static void whatIsSeen() {
        WhoseStreet s = new WhoseStreet();
        s.meeting(0, -60, 1, 5, -60, 1, 0);
        s.stand(0, -1, -1, 2, 50);
        worth(s, "speed", 1);
        worth(s, "pace", 1);
        worth(s, "floor", 2);
        worth(s, "seen", 60 - 59);
        due("look tells the same", s.look(0, 3), 1);
        WhoseStreet not = new WhoseStreet();
        not.meeting(0, -9999, 300, 5, -999, 60, 0);
        worth(not, "speed", 300);
        worth(not, "pace", 60);
        worth(not, "seen", 60);
        worth(not, "floor", 0);
        // Hidden until SECOND 3.
        not.stand(0, -1, -999 + 3 * 60, 0, 50);
        worth(not, "seen", 57);
        not.stand(0, -1, -1, 0, 50);
        worth(not, "seen", 0);
        due("he never SEES", not.look(0, 1), NONE);
        WhoseStreet unseen = new WhoseStreet();
        unseen.meeting(0, -300, 100, 0, -30, 10, 0);
        unseen.stand(0, -1, -1, 0, 50);
        due("they MET and he never saw", unseen.look(0, 0), 3);
        worth(unseen, "seen", 0);
        WhoseStreet met = withMeeting();
        worth(met, "seen", 2);
    }

    @Sentence("met: 1 or 0; looks 1 or 0; kind (0 grown, 1 a child, 2 old) and width (told with the MEETING, 0 to 99); hidden: 1 if"
        + " there is a STAND; year: the YEAR of which it is asked;")
    static void otherFacts() {
        for (int looks = 0; looks <= 5; looks++) {
            WhoseStreet s = new WhoseStreet();
            addMeeting(s, looks);
            worth(s, "looks", looks % 2);
            worth(s, "kind", looks / 2);
            worth(s, "met", looks % 2 == 0 ? 1 : 0);
        }
        WhoseStreet s = withMeeting();
        worth(s, "width", 50);
        worth(s, "hidden", 0);
        s.stand(0, -9999, -999, 0, 0);
        worth(s, "width", 0);
        worth(s, "hidden", 1);
        s.stand(0, 0, 0, 0, 99);
        worth(s, "width", 99);
        worth(s, "hidden", 0);
        Checks.law(s, "fault driver when year = 0 ; fault both when year = 30 ; fault walker when year = 6 ;", 0);
        Checks.law(s, "fault both when year = 30 ; fault walker when year = 6 ;", 6);
        due("year 0", s.whose(0, 0, 0), 1);
        due("year 1", s.whose(0, 1, 0), 0);
        due("year 6", s.whose(0, 6, 0), 2);
        due("year 30", s.whose(0, 30, 0), 3);
    }

    @Sentence("limit: N of the first limit line whose E is not 0 (in limit lines themselves and in lets limit is 0; 0 without one).")
    static void whichLimit() {
        WhoseStreet s = withMeeting();
        Checks.law(s, "fault driver when limit = 0 ;", 0);
        due("0 without one", s.whose(0, 0, 2), 0);
        due("0 without one in E", s.whose(0, 0, 0), 1);
        Checks.law(s, "limit 5 when 0 ;", 0);
        due("0 if none holds", s.whose(0, 0, 2), 0);
        Checks.law(s, "limit 5 when 0 ; limit 6 when 0 - 1 ; limit 7 when 1 ;", 0);
        due("the first that is not 0", s.whose(0, 0, 2), 6);
        Checks.law(s, "limit 5 when limit ; limit 6 when limit = 0 ; limit 7 when limit = 6 ;", 0);
        due("0 in limit lines", s.whose(0, 0, 2), 6);
        Checks.law(s, "limit 6 when 1 ; let a = limit ; limit 7 when a ; fault driver when a ; fault walker when 1 ;", 0);
        due("0 in lets", s.whose(0, 0, 0), 2);
        Checks.law(s, "fault driver when limit = 6 ; limit 6 when 1 ;", 0);
        due("a limit told behind", s.whose(0, 0, 0), 1);
        due("no BY-LAW, no limit", withMeeting().whose(0, 0, 2), 0);
    }

    @Sentence("Numbers go round in 32 bits; \"and\", \"or\", <, = tell 1 or 0, not 1 of 0, else 0.")
    static void numbersGoRound() {
        String least = "256 * 256 * 256 * 128";
        worth(least + " < 0", 1);
        worth(least + " - 1 < 0", 0);
        worth("0 < " + least + " - 1", 1);
        worth(least + " - 1 + 1 < 0", 1);
        worth(least + " = 0 - " + least, 1);
        worth(least + " < " + least + " - 1", 1);
        worth(least + " - 1 < " + least, 0);
        worth("256 * 256 * 256 * 256", 0);
        // 9999 * 9999 * 9999 is 233 * 2 ^ 32 - 1027349969.
        worth("9999 * 9999 * 9999 + 1027 * 1000 * 1000 + 349 * 1000", -969);
        worth("256 * 256 * 256 * 256 or 0", 0);
        worth("5 and 7", 1);
        worth("5 and 0", 0);
        worth("0 and 5", 0);
        worth("0 - 1 and 0 - 1", 1);
        worth("0 or 9", 1);
        worth("0 - 1 or 0", 1);
        worth("0 or 0", 0);
        worth("3 < 4", 1);
        worth("4 < 4", 0);
        worth("5 < 4", 0);
        worth("4 = 4", 1);
        worth("4 = 5", 0);
        worth("not 0", 1);
        worth("not 1", 0);
        worth("not 2", 0);
        worth("not ( 0 - 1 )", 0);
    }

    @Sentence("(A NAME is worked where it stands, limit being 0 in it.)")
    static void namesWithinNames() {
        WhoseStreet s = withMeeting();
        Checks.law(s, "limit 9 when 1 ; let a = limit + year ; let b = a + limit ; fault driver when b = year and limit = 9 ;", 0);
        due("in YEAR 0", s.whose(0, 0, 0), 1);
        due("in YEAR 30", s.whose(0, 30, 0), 1);
        // 8 NAMES, each of the one ahead twice.
        Checks.law(s, "let a=speed;let b=a+a;let c=b+b;let d=c+c;let e=d+d;let f=e+e;let g=f+f;let h=g+g;"
            + "fault walker when h=100*128;", 0);
        due("8 within one another", s.whose(0, 0, 0), 2);
        // A NAME of another BY-LAW is none here.
        due("a NAME of another BY-LAW", Checks.law(s, "fault both when a ;", 0), 2 + 16 * 16);
        Checks.law(s, "let a = not 0 ; fault both when a * 3 = 3 ;", 0);
        due("a NAME is one PART", s.whose(0, 0, 0), 3);
        Checks.law(s, "let a = 1 + 1 ; fault both when a * 3 = 6 ;", 0);
        due("and worked by itself", s.whose(0, 0, 0), 3);
    }

    @Sentence("WHOSE of a MEETING in a YEAR: WHO of the first fault line whose E is not 0 of the BY-LAW that holds then: 1 driver, 2"
        + " walker, 3 both, 0 none (also without a line);")
    static void whoseItIs() {
        WhoseStreet s = withMeeting();
        due("no BY-LAW", s.whose(0, 0, 0), 0);
        Checks.law(s, "", 0);
        due("no line", s.whose(0, 0, 0), 0);
        Checks.law(s, "fault driver when 0 ;", 0);
        due("none holds", s.whose(0, 0, 0), 0);
        Checks.law(s, "fault driver when 0 ; fault walker when 0 - 1 ; fault both when 1 ;", 0);
        due("the first that is not 0", s.whose(0, 0, 0), 2);
        Checks.law(s, "fault none when 1 ; fault both when 1 ;", 0);
        due("none by a line", s.whose(0, 0, 0), 0);
        Checks.law(s, "fault both when 1 ; fault none when 1 ;", 0);
        due("both", s.whose(0, 0, 0), 3);
        Checks.law(s, "fault driver when 1 ;", 0);
        due("driver", s.whose(0, 0, 0), 1);
    }

    @Sentence("WHY: which of its lines that is (from 0; lets count).")
    static void whyItIs() {
        WhoseStreet s = withMeeting();
        Checks.law(s, "fault driver when 1 ;", 0);
        due("from 0", s.whose(0, 0, 1), 0);
        Checks.law(s, "let a = 1 ; limit 3 when 1 ; fault driver when 0 ; let b = 1 ; fault none when 1 ;", 0);
        due("every line counts", s.whose(0, 0, 1), 4);
        Checks.law(s, "let a = 1 ; limit 3 when 1 ;", 0);
        due("no line", s.whose(0, 0, 1), NONE);
    }

    @Sentence("CHANGES: the YEARS from 1 on (to 30) in which WHOSE is another one than in the YEAR ahead.")
    static void whenItChanges() {
        WhoseStreet s = withMeeting();
        Checks.law(s, "fault driver when year < 1 ; fault walker when year < 30 ; fault both when 1 ;", 0);
        due("YEAR 1", s.changes(0, 0), 1);
        due("YEAR 30", s.changes(0, 1), 30);
        due("no more", s.changes(0, 2), NONE);
        WhoseStreet once = withMeeting();
        Checks.law(once, "fault driver when 1 ;", 0);
        due("YEAR 0 is none", once.changes(0, 0), NONE);
        Checks.law(once, "fault none when 1 ;", 4);
        Checks.law(once, "fault none when 0 ;", 5);
        due("to none", once.changes(0, 0), 4);
        due("none by a line and none without one are the same", once.changes(0, 1), NONE);
    }

    @Sentence("Up to 24 signs come behind the TAPE: the bytes of a, b, c, of each the highest first; others than 10 and 32 .. 126,"
        + " and what is beyond 1,000, are left out: how many there are.")
    static void promise8() {
        WhoseStreet s = new WhoseStreet();
        due("none", s.feed(0, 0, 0), 0);
        due("only others", s.feed(-1, Long.MIN_VALUE, 0x1f7f_800b_0901_ff00L), 0);
        // "let a =1" ";let b=a" ";let c=b": 24 signs, the last one c = b without its semicolon.
        due("24", s.feed(0x6c65_7420_6120_3d31L, 0x3b6c_6574_2062_3d61L, 0x3b6c_6574_2063_3d62L), 24);
        due("behind the TAPE", s.feed(0, 0, 0x3bL), 25);
        due("in their order", s.law(0), 0);
        due("left out in the midst", s.feed(0x6c00_65ff_7480_2001L, 0x6102_3d03_3104_3b05L, 0), 8);
        due("what is left reads as one", s.law(0), 0);
        due("10", s.feed(10, 0, 0), 1);
        due("9 and 11", s.feed(0x090b, 0, 0), 1);
        due("31 and 32", s.feed(0x1f20, 0, 0), 2);
        due("126 and 127", s.feed(0x7e7f, 0, 0), 3);
        s.law(0);
        for (int i = 1; i <= 41; i++) {
            s.feed(0x2020_2020_2020_2020L, 0x2020_2020_2020_2020L, 0x2020_2020_2020_2020L);
        }
        due("984", s.count(6), 984);
        due("to 1,000 in the midst of c", s.feed(0x2020_2020_2020_2020L, 0x2020_2020_2020_2000L, 0x203f_3f3f_3f3f_3f3fL), 1000);
        due("beyond 1,000", s.feed(0x3f3f_3f3f_3f3f_3f3fL, 0x3fL, 0x3fL), 1000);
        due("the first 1,000 are kept", s.law(0), 0);
        due("and it is filled anew", s.feed(0x41, 0, 0x42), 2);
    }

    @Sentence("The TAPE is read as a BY-LAW for a YEAR: 0; its FAULT; -1: no such YEAR, 16 are there (the TAPE is empty).")
    static void promise9() {
        WhoseStreet s = withMeeting();
        due("of the empty TAPE", s.law(0), 0);
        due("YEAR -1", Checks.law(s, "fault both when 1 ;", -1), -1);
        due("the TAPE is empty", s.count(6), 0);
        due("YEAR 31", Checks.law(s, "fault both when 1 ;", 31), -1);
        due("the TAPE is empty then, too", s.count(6), 0);
        for (int year : FAR) {
            due("YEAR " + year, Checks.law(s, "fault both when 1 ;", year), -1);
        }
        due("its FAULT", Checks.law(s, "fault both when", 0), 1 + 16 * 15);
        due("the TAPE is empty behind a FAULT", s.count(6), 0);
        due("a FAULT in the midst of E", Checks.law(s, "let a = not ( 1 < 2 + 3 * ( ?", 0), 1 + 16 * 28);
        due("a FAULT within 4", Checks.law(s, "let a = ( ( ( ( 1", 0), 5 + 16 * 16);
        due("nothing of it is around what is read next", Checks.law(s, "let a = ( ( ( 1 ) ) ) ;?", 0), 1 + 16 * 23);
        due("a FAULT behind <", Checks.law(s, "let a = 1 < ?", 0), 1 + 16 * 12);
        due("it does not wait for what is read next", Checks.law(s, "let a = 1 < 2 ;?", 0), 1 + 16 * 15);
        due("nor is its NAME told", Checks.law(s, "let b = a ;", 0), 2 + 16 * 8);
        due("only one is told", s.count(3), 1);
        due("and it is the empty one", s.whose(0, 30, 0), 0);
        for (int i = 1; i < 16; i++) {
            due("told", Checks.law(s, "fault both when 1 ;", i), 0);
        }
        due("16 are there", Checks.law(s, "fault driver when 1 ;", 30), -1);
        due("the TAPE is empty at last", s.count(6), 0);
        due("what is refused is not told", s.whose(0, 30, 3), 15);
        due("no such YEAR with 16", s.law(31), -1);
        nothingIsLeftOfAFault();
    }

    private static void nothingIsLeftOfAFault() {
        for (String left : new String[] {"not", "not not", "(", "( not", "1 +", "1 <", "1 and", "( 1 <"}) {
            WhoseStreet s = withMeeting();
            String text = "fault driver when " + left + " ";
            due("[" + text + "?]", Checks.law(s, text + "?", 0), 1 + 16 * text.length());
            due("a right one behind it", Checks.law(s, "fault both when 1 ; fault walker when 1 < 2 ;", 0), 0);
            due("its WHOSE", s.whose(0, 0, 0), 3);
            due("its WHY", s.whose(0, 0, 1), 0);
        }
    }

    @Sentence("Of a MEETING in a YEAR, what 0: WHOSE, 1: WHY (NONE if no line holds), 2: limit, 3: which BY-LAW holds (by the order"
        + " told; NONE: none); NONE: none such.")
    static void promise10() {
        WhoseStreet s = withMeeting();
        int[] without = {0, NONE, 0, NONE, NONE};
        for (int what = 0; what < without.length; what++) {
            due("without a BY-LAW, what " + what, s.whose(0, 0, what), without[what]);
        }
        Checks.law(s, "", 0);
        int[] empty = {0, NONE, 0, 0, NONE};
        for (int what = 0; what < empty.length; what++) {
            due("an empty one, what " + what, s.whose(0, 0, what), empty[what]);
        }
        Checks.law(s, "limit 44 when 1 ; fault both when 1 ;", 0);
        int[] with = {3, 1, 44, 1, NONE};
        for (int what = 0; what < with.length; what++) {
            due("what " + what, s.whose(0, 30, what), with[what]);
            due("YEAR -1", s.whose(0, -1, what), NONE);
            due("YEAR 31", s.whose(0, 31, what), NONE);
            due("MEETING -1", s.whose(-1, 0, what), NONE);
            due("MEETING 1 of 1", s.whose(1, 0, what), NONE);
            for (int n : FAR) {
                due("MEETING " + n, s.whose(n, 0, what), NONE);
                due("YEAR " + n, s.whose(0, n, what), NONE);
                due("what " + n, s.whose(0, 0, n), NONE);
            }
        }
        due("what -1", s.whose(0, 0, -1), NONE);
    }

    @Sentence("The i-th of the CHANGES; NONE: none such.")
    static void promise11() {
        WhoseStreet s = withMeeting();
        due("no BY-LAW", s.changes(0, 0), NONE);
        StringBuilder odd = new StringBuilder();
        for (int year = 1; year <= 29; year += 2) {
            odd.append("or year=").append(year).append(' ');
        }
        due("a BY-LAW", Checks.law(s, "fault driver when 0 " + odd + ";", 0), 0);
        for (int i = 0; i < 30; i++) {
            due("each YEAR", s.changes(0, i), i + 1);
        }
        due("a 31st", s.changes(0, 30), NONE);
        due("i -1", s.changes(0, -1), NONE);
        due("MEETING -1", s.changes(-1, 0), NONE);
        due("MEETING 1 of 1", s.changes(1, 0), NONE);
        for (int n : FAR) {
            due("i " + n, s.changes(0, n), NONE);
            due("MEETING " + n, s.changes(n, 0), NONE);
        }
    }
}
