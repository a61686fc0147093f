/** The document's part 6, and promises 19 to 22: bills. */
final class BillEdges extends Edges {
    /** A CLASS whose leanings are told from CLAUSE 0 on. */
    private static int voters(WhoseStreet s, int heads, int... leanings) {
        int voters = s.voters(heads);
        for (int clause = 0; clause < leanings.length; clause++) {
            yes("a leaning", s.leans(voters, clause, leanings[clause]));
        }
        return voters;
    }

    @Sentence("BILLS. CLASSES, 8 at most: heads (1 to 9999), for each of the CLAUSES 0 to 8 a leaning (-99 to 99; 0 at first).")
    static void classesThereCanBe() {
        WhoseStreet s = new WhoseStreet();
        due("0 heads", s.voters(0), NONE);
        due("1 head", s.voters(1), 0);
        due("9999 heads", s.voters(9999), 1);
        due("10000 heads", s.voters(10000), NONE);
        for (int clause = 0; clause <= 8; clause++) {
            due("0 at first", s.passes(1 << clause), 1);
            no("-100", s.leans(1, clause, -100));
            due("it is 0 still", s.passes(1 << clause), 1);
            yes("-99", s.leans(1, clause, -99));
            due("against it", s.passes(1 << clause), 0);
            no("100", s.leans(1, clause, 100));
            due("against it still", s.passes(1 << clause), 0);
            yes("99", s.leans(1, clause, 99));
            due("for it", s.passes(1 << clause), 1);
        }
        no("CLAUSE -1", s.leans(1, -1, 0));
        no("CLAUSE 9", s.leans(1, 9, 0));
        for (int i = 2; i < 8; i++) {
            due("to 8", s.voters(1), i);
        }
        due("a ninth", s.voters(1), NONE);
        due("8 are there", s.count(8), 8);
        yes("the eighth leans", s.leans(7, 8, -99));
        no("a ninth does not", s.leans(8, 8, -99));
        WhoseStreet eight = new WhoseStreet();
        for (int i = 0; i < 8; i++) {
            eight.voters(i == 7 ? 9999 : 1);
        }
        for (int clause = 0; clause <= 8; clause++) {
            due("the eighth's leaning is 0 at first", eight.passes(1 << clause), 1);
            eight.leans(7, clause, -1);
            due("the eighth's leaning counts", eight.passes(1 << clause), 0);
        }
    }

    @Sentence("A CLASS votes yes if its leanings for the CLAUSES that are left come to 0 or more.")
    static void whoVotesYes() {
        WhoseStreet s = new WhoseStreet();
        voters(s, 5, 3, -3, -4, 1, 99, 99, -99, -99, -1);
        due("none left: 0", s.passes(0), 1);
        due("3 - 3: 0", s.passes(0b11), 1);
        due("3 - 4: -1", s.passes(0b101), 0);
        due("3 - 4 + 1: 0", s.passes(0b1101), 1);
        due("99 + 99 - 99 - 99: 0", s.passes(0b11110000), 1);
        due("and -1 more", s.passes(0b111110000), 0);
        due("all: -4", s.passes(511), 0);
        due("one that is not left does not count", s.passes(0b10), 0);
    }

    @Sentence("A bill PASSES if more heads vote yes than no.")
    static void moreYesThanNo() {
        WhoseStreet s = new WhoseStreet();
        due("nobody votes", s.passes(0), 0);
        voters(s, 9999, -1);
        due("0 to 9999", s.passes(1), 0);
        voters(s, 9998);
        due("9998 to 9999", s.passes(1), 0);
        voters(s, 1);
        due("9999 to 9999", s.passes(1), 0);
        voters(s, 1);
        due("10000 to 9999", s.passes(1), 1);
        WhoseStreet all = new WhoseStreet();
        for (int i = 0; i < 8; i++) {
            voters(all, 9999, i < 4 ? -1 : 1);
        }
        due("39996 to 39996", all.passes(1), 0);
        all.leans(0, 0, 0);
        due("49995 to 29997", all.passes(1), 1);
    }

    @Sentence("MOST LEFT: the set of CLAUSES (of those of a set) that PASSES with the most of them; of as many with the most heads for it;"
        + " of equal ones the greatest as a number (bits).")
    static void mostThatIsLeft() {
        WhoseStreet s = new WhoseStreet();
        due("nobody votes", s.most(0), NONE);
        voters(s, 10, -1, -1, 1);
        due("of equal ones the greatest", s.most(0b111), 0b110);
        due("all that lean to 0", s.most(511), 0b111111110);
        voters(s, 3, 0, -5, 0);
        due("more heads for the lesser number", s.most(0b111), 0b101);
        due("of a set", s.most(0b110), 0b110);
        due("of another", s.most(0b011), 0);
        due("of none", s.most(0), 0);
        voters(s, 9999, 0, 0, -99);
        due("the most of them, with fewer heads", s.most(0b111), 0b011);
        WhoseStreet few = new WhoseStreet();
        voters(few, 3, 1, 1, -2);
        voters(few, 2, -9, -9, 9);
        due("the most of them first", few.most(0b111), 0b111);
        due("not one that does not PASS", few.most(0b101), 0b001);
    }

    @Sentence("A CLASS more: its number; NONE: other heads, 8 are there.")
    static void promise19() {
        WhoseStreet s = new WhoseStreet();
        due("0 heads", s.voters(0), NONE);
        due("-1 heads", s.voters(-1), NONE);
        due("10000 heads", s.voters(10000), NONE);
        for (int heads : FAR) {
            due("heads " + heads, s.voters(heads), NONE);
        }
        due("what is refused is no CLASS", s.count(8), 0);
        for (int i = 0; i < 8; i++) {
            due("its number", s.voters(i % 2 == 0 ? 1 : 9999), i);
            due("so many", s.count(8), i + 1);
        }
        due("8 are there", s.voters(1), NONE);
        due("8 stay", s.count(8), 8);
    }

    @Sentence("A leaning: true; false: none such, another number.")
    static void promise20() {
        WhoseStreet s = new WhoseStreet();
        no("no CLASS yet", s.leans(0, 0, 0));
        voters(s, 1);
        yes("-99", s.leans(0, 0, -99));
        yes("99", s.leans(0, 8, 99));
        no("CLASS -1", s.leans(-1, 0, 0));
        no("CLASS 1 of 1", s.leans(1, 0, 0));
        no("CLAUSE -1", s.leans(0, -1, 0));
        no("CLAUSE 9", s.leans(0, 9, 0));
        no("-100", s.leans(0, 0, -100));
        no("100", s.leans(0, 0, 100));
        for (int n : FAR) {
            no("CLASS " + n, s.leans(n, 0, 0));
            no("CLAUSE " + n, s.leans(0, n, 0));
            no("leaning " + n, s.leans(0, 0, n));
        }
        due("what is refused changes nothing", s.passes(1), 0);
        due("-99 and 99 come to 0", s.passes(0b100000001), 1);
        yes("told anew", s.leans(0, 0, 1));
        due("the new one counts", s.passes(1), 1);
    }

    @Sentence("Whether the CLAUSES of a set (bits) PASS: 1 or 0; NONE: no such set.")
    static void promise21() {
        WhoseStreet s = new WhoseStreet();
        due("nobody", s.passes(511), 0);
        voters(s, 1, 0, 0, 0, 0, 0, 0, 0, 0, -1);
        due("set 0", s.passes(0), 1);
        due("set 255", s.passes(255), 1);
        due("set 256", s.passes(256), 0);
        due("set 511", s.passes(511), 0);
        due("set 512", s.passes(512), NONE);
        due("set 1023", s.passes(1023), NONE);
        due("set -1", s.passes(-1), NONE);
        for (int set : FAR) {
            due("set " + set, s.passes(set), NONE);
        }
    }

    @Sentence("MOST LEFT of a set (as bits); NONE: no such set, none PASSES.")
    static void promise22() {
        WhoseStreet s = new WhoseStreet();
        due("none PASSES", s.most(511), NONE);
        due("none PASSES of none", s.most(0), NONE);
        voters(s, 1);
        due("set 511", s.most(511), 511);
        due("set 0", s.most(0), 0);
        due("set 512", s.most(512), NONE);
        due("set -1", s.most(-1), NONE);
        for (int set : FAR) {
            due("set " + set, s.most(set), NONE);
        }
        for (int clause = 0; clause <= 8; clause++) {
            s.leans(0, clause, -99);
        }
        due("nothing is left", s.most(511), 0);
    }
}
