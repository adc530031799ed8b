import java.util.List;

/** THE TABLE and what is told by it: their part of "Terms", and promises 13 to 18. */
final class TableSentences {
    private static final int NONE = Due.NONE, BAD = Due.BAD, NO = Due.NO;
    private static final int LEAST = Integer.MIN_VALUE, MOST = Integer.MAX_VALUE;

    private TableSentences() { }

    static List<Sentence> all() {
        return List.of(
            new Sentence("What it is", "by paths on which each return goes back to its own call", TableSentences::matched),
            new Sentence("Terms", "THE TABLE has ENTRIES (p, a, n, b): PROC, FACT at its ENTRY, NODE of it, FACT there.",
                TableSentences::fourParts),
            new Sentence("Terms", "Each that comes and is not in it already comes behind all others",
                TableSentences::comesOnce),
            new Sentence("Terms", "each is TAKEN once, in the order in which they came", TableSentences::takenInOrder),
            new Sentence("Terms", "First come, for each FACT a of START, rising, (0, a, ENTRY of 0, a).",
                TableSentences::startComesFirst),
            new Sentence("Terms", "if n is no EXIT, all EDGES from n by their numbers", TableSentences::edgesByNumbers),
            new Sentence("Terms", "PLAIN: for each FACT d to which b goes, rising, (p, a, m, d).", TableSentences::plainRising),
            new Sentence("Terms", "CALL: for each FACT c to which b goes by IN, rising: (q, c, ENTRY of q, c) comes",
                TableSentences::inRising),
            new Sentence("Terms", "this one is noted as a CALLER of (q, c) by that EDGE (in the order in which they are noted)",
                TableSentences::callersAsNoted),
            new Sentence("Terms", "then for each FACT e, rising, for which (q, c, EXIT of q, e) is in THE TABLE as its turn comes",
                TableSentences::knownRising),
            new Sentence("Terms", "TAKEN or not", TableSentences::takenOrNot),
            new Sentence("Terms", "one that came by a lesser e ahead, too", TableSentences::lesserAhead),
            new Sentence("Terms", "for each FACT d to which e goes by OUT, rising, (p, a, m, d) comes",
                TableSentences::knownOutRising),
            new Sentence("Terms", "behind all these FACTS c, for each FACT d to which b goes by BESIDE, rising, (p, a, m, d) comes",
                TableSentences::besideBehind),
            new Sentence("Terms", "If n is the EXIT: for each CALLER of (p, a), as they were noted", TableSentences::exitOfItsFact),
            new Sentence("Terms", "for each FACT d to which b goes by its OUT, rising, (r, g, m, d) comes",
                TableSentences::returnsRising),
            new Sentence("Terms", "HOLDS at a NODE: FACTS b of all ENTRIES there.", TableSentences::holdsOfAll),
            new Sentence("Terms", "LOOSE at a NODE: FACTS that can come there from START by any row of steps",
                TableSentences::looseRows),
            new Sentence("Terms", "whether it was that EDGE by which the path came in or not", TableSentences::looseReturns),
            new Sentence("Terms", "ORIGINS of FACT f at a NODE: FACTS a (0 .. 7) so that f HOLDS there by THE TABLE, "
                + "were a alone START.", TableSentences::originsAlone),
            new Sentence("Terms", "THE TABLE being filled as if, for each FACT c to which b goes by IN, rising, "
                + "(q, c, ENTRY of q, c) came first, and nothing else", TableSentences::summaryAlone),
            new Sentence("Terms", "FACTS d to which e goes by OUT, for each such c and each (q, c, EXIT of q, e) in it",
                TableSentences::summarySuch),
            new Sentence("Terms", "BESIDE does not count", TableSentences::summaryNotBeside),
            new Sentence("Terms", "by the first ENTRY of THE TABLE with n, f", TableSentences::witnessOfFirst),
            new Sentence("Terms", "WAY of an ENTRY x, by how it came first", TableSentences::wayAsItCame),
            new Sentence("Terms", "of START: its own PAIR (n, b)", TableSentences::wayOfStart),
            new Sentence("Terms", "As (q, c, ENTRY of q, c) by a CALL of y that was TAKEN: WAY of y, its own PAIR.",
                TableSentences::wayByCall),
            new Sentence("Terms", "By PLAIN, by BESIDE of y that was TAKEN: likewise.", TableSentences::wayByPlain),
            new Sentence("Terms", "By OUT, y being the CALLER, z the one at the EXIT: WAY of y, INNER of z, its own PAIR.",
                TableSentences::wayByOut),
            new Sentence("Terms", "of one with n the ENTRY of p and b alike to a its own PAIR alone, and INNER in place of WAY of y",
                TableSentences::inner),
            new Sentence("Terms", "Of a WITNESS with more than 999 PAIRS only the first 1000 are told.",
                TableSentences::thousandPairs),
            new Sentence("Promise 13", "HOLDS at NODE n, as bits.", TableSentences::holdsBits),
            new Sentence("Promise 13", "BAD.", TableSentences::holdsBad),
            new Sentence("Promise 14", "LOOSE at NODE n, as bits.", TableSentences::looseBits),
            new Sentence("Promise 14", "BAD.", TableSentences::looseBad),
            new Sentence("Promise 15", "ORIGINS of FACT f at NODE n, as bits.", TableSentences::originsBits),
            new Sentence("Promise 15", "BAD.", TableSentences::originsBad),
            new Sentence("Promise 16", "SUMMARY of CALL e and FACT b, as bits.", TableSentences::summaryBits),
            new Sentence("Promise 16", "BAD; NO: EDGE e is PLAIN.", TableSentences::summaryRefused),
            new Sentence("Promise 17", "PROC (what 0), a (1), NODE (2), b (3)", TableSentences::entryParts),
            new Sentence("Promise 17", "NONE: not so many.", TableSentences::entryNone),
            new Sentence("Promise 17", "BAD: i below 0, too.", TableSentences::entryBad),
            new Sentence("Promise 18", "how many PAIRS (i NONE; 1000 at most)", TableSentences::witnessMany),
            new Sentence("Promise 18", "the i-th (0 on) as 10 times the NODE, and the FACT", TableSentences::witnessPair),
            new Sentence("Promise 18", "NONE: not so many, f does not HOLD there.", TableSentences::witnessNone),
            new Sentence("Promise 18", "BAD: i below -1, too.", TableSentences::witnessBad));
    }

    private static int[] row(int p, int a, int n, int b) { return new int[] {p, a, n, b}; }

    /** FACTS 1 to 7 do not go beside these EDGES. */
    private static String notBeside(int first, int last) {
        StringBuilder s = new StringBuilder();
        for (int e = first; e <= last; e++) for (int a = 1; a < 8; a++) s.append("f" + e + " 0 " + a + " 0;");
        return s.toString();
    }

    /** PROC 1 goes straight through; from NODE 0 it is called back to 4 with FACT 1, back to 5 with FACT 2. */
    private static MatchedFlows twoCalls() {
        return Due.made("p;n0;n0;e2 3;c0 1 4;c0 1 5;" + notBeside(1, 2) + "s7;f1 1 2 0;f2 1 1 0");
    }

    // ---- THE TABLE

    private static void matched(Due d) {
        MatchedFlows x = twoCalls();
        d.due("both are in PROC 1", x.holds(3), 7);
        d.due("back to 4 with 1", x.holds(4), 3);
        d.due("back to 5 with 2", x.holds(5), 5);
        d.due("loosely both", x.loose(4) * 1000 + x.loose(5), 7007);
        MatchedFlows y = Due.made("p;n0;n0;n0;c4 1 5;c0 1 6;e2 3");
        d.due("back to the CALL that was come by", y.holds(6), 1);
        d.due("not to one to which no path comes", y.holds(5), 0);
    }

    private static void fourParts(Due d) {
        d.entries(Due.made("p;n0;c0 1 4;e2 3;f0 1 0 9;f1 0 3 64;" + notBeside(0, 0)), row(0, 0, 0, 0), row(1, 0, 2, 0),
            row(1, 3, 2, 3), row(0, 0, 4, 0), row(1, 0, 3, 0), row(1, 3, 3, 6), row(0, 0, 4, 6));
        MatchedFlows x = fullest();
        d.due("the fullest: 8 at each ENTRY, 57 at each other NODE", x.count(4), 8 * 5 + 57 * 19);
        d.due("all NODES", x.count(5), 24);
        d.due("the last NODE of the last", x.entry(1122, 2) >= 0 ? 1 : 0, 1);
        d.due("none behind", x.entry(1123, 2), NONE);
        for (int n = 0; n < 24; n++) d.due("holds at " + n, x.holds(n), 255);
    }

    /** In each PROC one PLAIN EDGE takes each FACT to all it may go to, and a row of others through all NODES. */
    private static MatchedFlows fullest() {
        StringBuilder s = new StringBuilder("p;p;p;p;");
        for (int n = 10; n < 24; n++) s.append("n" + n % 5 + ";");
        for (int p = 0; p < 5; p++) {
            int first = 10 + p;
            s.append("e" + 2 * p + " " + first + ";");
            for (int a = 0; a < 8; a++) s.append("f" + p + " 0 " + a + " " + (a == 0 ? 255 : 254) + ";");
        }
        for (int p = 0; p < 5; p++) {
            for (int n = 15 + p; n < 24; n += 5) s.append("e" + (n - 5) + " " + n + ";");
            s.append("e" + (10 + p) + " " + (2 * p + 1) + ";");
        }
        return Due.made(s + "c0 1 1;c0 2 1;c0 3 1;c0 4 1;s255");
    }

    private static void comesOnce(Due d) {
        MatchedFlows x = Due.made("n0;n0;e0 2;e0 3;e2 1;e3 1;e2 2;e2 3");
        d.entries(x, row(0, 0, 0, 0), row(0, 0, 2, 0), row(0, 0, 3, 0), row(0, 0, 1, 0));
        d.entries(Due.made("c0 0 1;s3"), row(0, 0, 0, 0), row(0, 1, 0, 1), row(0, 0, 1, 0), row(0, 1, 1, 1));
    }

    private static void takenInOrder(Due d) {
        MatchedFlows x = Due.made("n0;n0;n0;n0;n0;e0 2;e0 3;e2 4;e3 5;e4 6;e5 1");
        d.entries(x, row(0, 0, 0, 0), row(0, 0, 2, 0), row(0, 0, 3, 0), row(0, 0, 4, 0), row(0, 0, 5, 0), row(0, 0, 6, 0),
            row(0, 0, 1, 0));
        manyCallers(d);
    }

    /** 57 ENTRIES at NODE 4, each with 19 CALLS: every one of them has its return, though FACTS do not go beside. */
    private static void manyCallers(Due d) {
        String flows = "f0 0 0 255;" + Due.rows("f0 0 # 254;", 1, 7);
        MatchedFlows x = Due.made("p;" + "n0;".repeat(20) + "e0 4;" + flows + Due.rows("c4 1 #;", 5, 23) + notBeside(1, 19)
            + "e2 3;s255");
        d.due("8 at 0, 57 at 4, 57 at each m, 8 at 2 and at 3", x.count(4), 8 + 57 + 57 * 19 + 16);
    }

    private static void startComesFirst(Due d) {
        d.entries(Due.made("s133;e0 1"), row(0, 0, 0, 0), row(0, 2, 0, 2), row(0, 7, 0, 7), row(0, 0, 1, 0), row(0, 2, 1, 2),
            row(0, 7, 1, 7));
        d.entries(new MatchedFlows(), row(0, 0, 0, 0));
        MatchedFlows all = Due.made("s255");
        for (int a = 0; a < 8; a++) d.due("entry " + a, all.entry(a, 1) * 10 + all.entry(a, 3), 11 * a);
        d.due("no more", all.count(4), 8);
    }

    private static void edgesByNumbers(Due d) {
        MatchedFlows x = Due.made("n0;n0;e0 3;c0 0 1;e0 2;e2 1");
        d.entries(x, row(0, 0, 0, 0), row(0, 0, 3, 0), row(0, 0, 1, 0), row(0, 0, 2, 0));
        x.cuts(0);
        x.edge(0, 3);
        d.entries(x, row(0, 0, 0, 0), row(0, 0, 1, 0), row(0, 0, 2, 0), row(0, 0, 3, 0));
    }

    private static void plainRising(Due d) {
        d.entries(Due.made("e0 1;f0 0 0 169;s3;f0 0 1 68"), row(0, 0, 0, 0), row(0, 1, 0, 1), row(0, 0, 1, 0), row(0, 0, 1, 3),
            row(0, 0, 1, 5), row(0, 0, 1, 7), row(0, 1, 1, 2), row(0, 1, 1, 6));
        d.due("to none", Due.made("e0 1;s3;f0 0 1 0").count(4), 3);
    }

    private static void inRising(Due d) {
        d.entries(Due.made("p;c0 1 1;f0 1 0 149"), row(0, 0, 0, 0), row(1, 0, 2, 0), row(1, 2, 2, 2), row(1, 4, 2, 4),
            row(1, 7, 2, 7), row(0, 0, 1, 0));
        d.due("to none", Due.made("p;c0 1 1;s3;f0 1 1 0;f0 0 1 0").count(4), 4);
        d.entries(Due.made("p;n0;e0 4;c4 1 1;f0 0 0 5;f1 1 2 72"), row(0, 0, 0, 0), row(0, 0, 4, 0), row(0, 0, 4, 2),
            row(1, 0, 2, 0), row(0, 0, 1, 0), row(1, 3, 2, 3), row(1, 6, 2, 6), row(0, 0, 1, 2));
    }

    /** The CALL with the greater number is noted first; FACT 1 comes back by OUT alone. */
    private static void callersAsNoted(Due d) {
        MatchedFlows x = Due.made("p;n0;n0;n0;n0;c5 1 7;e0 4;e0 5;c4 1 6;e2 3;s3;f0 0 1 0;f3 0 1 0");
        d.entries(x, row(0, 0, 0, 0), row(0, 1, 0, 1), row(0, 0, 4, 0), row(0, 0, 5, 0), row(0, 1, 4, 1), row(0, 1, 5, 1),
            row(1, 0, 2, 0), row(0, 0, 6, 0), row(0, 0, 7, 0), row(1, 1, 2, 1), row(1, 0, 3, 0), row(1, 1, 3, 1),
            row(0, 1, 6, 1), row(0, 1, 7, 1));
        MatchedFlows one = Due.made("p;n0;n0;c0 1 5;c0 1 4;e2 3;s3;f0 0 1 0;f1 0 1 0");
        d.due("of one ENTRY by the EDGES' numbers", one.entry(8, 2) * 10 + one.entry(9, 2), 54);
    }

    /** 0 and 2 come to PROC 1's EXIT ahead of 1, and all of them before NODE 6 calls it. */
    private static MatchedFlows knownBefore() {
        return Due.made("p;n0;n0;n0;n0;n1;e2 3;e2 8;e8 3;c0 1 4;e4 5;e5 6;c6 1 7;f0 0 0 5;f2 0 0 3");
    }

    private static void knownRising(Due d) {
        MatchedFlows x = Due.more(knownBefore(), "f6 2 1 64;f6 2 2 8");
        int[][] all = {row(0, 0, 0, 0), row(1, 0, 2, 0), row(0, 0, 4, 0), row(1, 0, 3, 0), row(1, 0, 3, 2), row(1, 0, 8, 0),
            row(0, 0, 5, 0), row(0, 0, 4, 2), row(1, 0, 3, 1), row(0, 0, 6, 0), row(0, 0, 5, 2), row(0, 0, 4, 1),
            row(0, 0, 7, 0), row(0, 0, 7, 6), row(0, 0, 7, 3)};
        for (int i = 0; i < all.length; i++) {
            for (int what = 0; what < 4; what++) d.due("entry " + i, x.entry(i, what), all[i][what]);
        }
    }

    /** FACT 1 at PROC 1's EXIT waits to be TAKEN when NODE 5 calls; it comes to 6 ahead of what comes to 7. */
    private static void takenOrNot(Due d) {
        MatchedFlows x = Due.made("p;n0;n0;n0;n0;c0 1 4;e0 5;c5 1 6;e5 7;e2 3;f4 0 0 3");
        d.entries(x, row(0, 0, 0, 0), row(1, 0, 2, 0), row(0, 0, 4, 0), row(0, 0, 5, 0), row(1, 0, 3, 0), row(1, 0, 3, 1),
            row(0, 0, 6, 0), row(0, 0, 6, 1), row(0, 0, 7, 0), row(0, 0, 4, 1));
    }

    /** A PROC that calls itself back to its EXIT: by 1 comes 2 there, by 2 come 3 and 4 in the same turn. */
    private static void lesserAhead(Due d) {
        MatchedFlows x = Due.made("n0;e0 1;e0 2;c2 0 1;s3;e2 1;f2 2 1 4;f2 2 2 24;f2 2 4 4;f3 0 1 32;" + notBeside(2, 2));
        d.entries(x, row(0, 0, 0, 0), row(0, 1, 0, 1), row(0, 0, 1, 0), row(0, 0, 2, 0), row(0, 1, 1, 1), row(0, 1, 2, 1),
            row(0, 1, 1, 2), row(0, 1, 1, 3), row(0, 1, 1, 4), row(0, 1, 1, 5));
        // By 3 comes 2, which is less: it is not looked at again in this turn, but comes to the CALLER as it is TAKEN.
        MatchedFlows y = Due.made("n0;e0 1;e0 2;c2 0 1;s9;e2 1;f2 2 3 4;f2 2 2 16;f3 0 3 32;" + notBeside(2, 2));
        d.entries(y, row(0, 0, 0, 0), row(0, 3, 0, 3), row(0, 0, 1, 0), row(0, 0, 2, 0), row(0, 3, 1, 3), row(0, 3, 2, 3),
            row(0, 3, 1, 2), row(0, 3, 1, 5), row(0, 3, 1, 4));
    }

    private static void knownOutRising(Due d) {
        MatchedFlows x = Due.more(knownBefore(), "f6 2 1 200;f6 2 2 0");
        int[] want = {0, 3, 6, 7};
        for (int i = 0; i < 4; i++) d.due("entry " + (12 + i), x.entry(12 + i, 2) * 10 + x.entry(12 + i, 3), 70 + want[i]);
    }

    /** At NODE 6, IN takes FACT 0 to 0 and 5, OUT brings 0 and 4, and 1, 3 and 7 go beside. */
    private static void besideBehind(Due d) {
        MatchedFlows x = Due.more(knownBefore(), "f6 1 0 33;f6 2 0 17;f6 2 1 0;f6 2 2 0;f6 0 0 139");
        int[][] want = {row(0, 0, 7, 0), row(0, 0, 7, 4), row(1, 5, 2, 5), row(0, 0, 7, 1), row(0, 0, 7, 3), row(0, 0, 7, 7)};
        for (int i = 0; i < want.length; i++) {
            for (int what = 0; what < 4; what++) d.due("entry " + (12 + i), x.entry(12 + i, what), want[i][what]);
        }
        d.entries(Due.made("p;c0 1 1;f0 0 0 7"), row(0, 0, 0, 0), row(1, 0, 2, 0), row(0, 0, 1, 0), row(0, 0, 1, 1),
            row(0, 0, 1, 2));
    }

    private static void exitOfItsFact(Due d) {
        MatchedFlows x = twoCalls();
        d.due("FACT 2 went not in by the first CALL", x.holds(4), 3);
        // The EXIT's FACT is another one than the ENTRY's; PROC 2 is called likewise and has no way through.
        MatchedFlows y = Due.made("p;p;n0;n0;c0 1 6;c0 2 7;e2 3;f2 0 1 32;s7;f0 1 2 0;" + notBeside(0, 1));
        d.due("by (1, 1) comes 5", y.holds(6), 33);
        d.due("from PROC 2 comes none", y.holds(7), 1);
        d.due("FACT 2 at PROC 1's EXIT", y.holds(3), 33);
        d.due("nobody called PROC 0", Due.made("e0 1;c0 0 1;f1 1 0 1;x1;s255").count(4), 16);
    }

    private static void returnsRising(Due d) {
        MatchedFlows x = Due.made("p;c0 1 1;e2 3;f0 2 0 209");
        d.entries(x, row(0, 0, 0, 0), row(1, 0, 2, 0), row(0, 0, 1, 0), row(1, 0, 3, 0), row(0, 0, 1, 4), row(0, 0, 1, 6),
            row(0, 0, 1, 7));
        d.due("to none", Due.made("p;c0 1 1;e2 3;s3;f0 0 1 0;f0 2 1 0").holds(1), 1);
        // FACT 1 goes in as 2, is 3 at the EXIT, and comes out as 4 and 6.
        MatchedFlows y = Due.made("p;c0 1 1;e2 3;s3;f0 0 1 0;f0 1 1 4;f1 0 2 8;f0 2 3 80");
        d.due("by the FACT at the EXIT", y.holds(1), 81);
        d.due("rising", y.entry(7, 3) * 10 + y.entry(8, 3), 46);
    }

    // ---- HOLDS, LOOSE, ORIGINS, SUMMARY

    private static void holdsOfAll(Due d) {
        MatchedFlows x = Due.made("p;n0;e0 4;s225;f0 0 5 4;f0 0 6 0;f0 0 7 136");
        d.due("of 0, 5 and 7", x.holds(4), 141);
        d.due("START", x.holds(0), 225);
        d.due("no way to it", x.holds(1), 0);
        d.due("not called", x.holds(2), 0);
        d.due("of no START", Due.more(x, "s1").holds(4), 1);
    }

    /** The row of steps goes against the EDGES' numbers, with another FACT at each. */
    private static void looseRows(Due d) {
        StringBuilder s = new StringBuilder("n0;".repeat(22));
        for (int n = 22; n >= 2; n--) s.append("e" + n + " " + (n + 1) + ";");
        MatchedFlows x = Due.made(s + "e0 2;e23 1;s3" + Due.rows(";f# 0 1 4;f# 0 2 2", 0, 20));
        for (int n = 2; n < 24; n++) d.due("at " + n, x.loose(n), n % 2 == 0 ? 3 : 5);
        d.due("at the EXIT", x.loose(1), 5);
        looseRounds(d);
        MatchedFlows y = Due.made("p;n0;c0 1 4;e2 3;s15;" + notBeside(0, 0)
            + "f0 0 1 16;f0 1 1 0;f0 1 2 32;f0 1 3 0;f0 2 5 64;f0 2 3 0");
        d.due("by IN", y.loose(2), 33);
        d.due("by PLAIN", y.loose(3), 33);
        d.due("by BESIDE and OUT", y.loose(4), 81);
        d.due("nowhere from START", y.loose(1), 0);
        d.due("START", y.loose(0), 15);
    }

    /** FACT 1 becomes 7 by going round and round, each time against the EDGES' numbers. */
    private static void looseRounds(Due d) {
        StringBuilder s = new StringBuilder("n0;".repeat(22) + "e23 1;");
        for (int n = 22; n >= 2; n--) s.append("e" + n + " " + (n + 1) + ";");
        s.append("e23 2;e0 2;s3;");
        for (int a = 1; a < 8; a++) s.append("f22 0 " + a + " " + (2 << a & 254) + ";");
        d.due("seven times round", Due.made(s.toString()).loose(1), 255);
        d.due("by an EDGE to itself", Due.made("n0;e0 2;e2 2;s3;f1 0 1 4;f1 0 2 8;f1 0 3 16").loose(2), 31);
        d.due("beside a PROC that was come into", Due.made("p;n0;n0;n0;e4 1;c6 1 4;e0 6;c0 1 5").loose(1), 1);
        d.due("into a PROC, beside it was come", Due.made("p;n0;n0;e2 3;c5 1 4;e0 5;e0 4;f2 0 0 3").loose(3), 3);
        d.due("out of a PROC", Due.made("p;n0;e4 1;c0 1 4;e2 3;s3;f1 0 1 0").loose(1), 3);
    }

    private static void looseReturns(Due d) {
        MatchedFlows x = Due.more(twoCalls(), "n0;n0;c6 1 7");
        d.due("back by the other CALL", x.loose(4), 7);
        d.due("back by a CALL to which no path comes", x.loose(7), 7);
        d.due("though n has none", x.loose(6), 0);
        d.due("which does not hold", x.holds(7), 0);
    }

    private static void originsAlone(Due d) {
        MatchedFlows x = Due.made("n0;e0 2;s7;f0 0 0 9;f0 0 1 24;f0 0 2 0;f0 0 7 8");
        d.due("of 0, of 1, of itself and of 7, though 3 and 7 are not of START", x.origins(2, 3), 139);
        d.due("of 1 and of itself", x.origins(2, 4), 18);
        d.due("2 goes nowhere", x.origins(2, 2), 0);
        d.due("0 of 0 alone", x.origins(2, 0), 1);
        d.due("no way", x.origins(1, 3), 0);
        d.due("START stays", x.count(3) * 1000 + x.holds(2), 7000 + 25);
        MatchedFlows two = Due.made("p;e0 1;f0 0 2 8");
        d.due("of PROC 0's ENTRY, not of the last", two.origins(1, 3), 12);
        d.due("PROC 1 is not called", two.origins(2, 3), 0);
        MatchedFlows all = Due.made("e0 1;f0 0 0 3" + Due.rows(";f0 0 # 2", 2, 7));
        d.due("of each", all.origins(1, 1), 255);
        d.due("of itself", all.origins(0, 7), 128);
    }

    private static void summaryAlone(Due d) {
        MatchedFlows x = Due.more(twoCalls(), "n0;n0;c6 1 7;f3 1 3 160;f0 0 5 16");
        d.due("of a CALL to which no path comes", x.summary(3, 3), 144);
        d.due("of a FACT that goes nowhere by IN", x.summary(1, 2), 0);
        d.due("of one that does not HOLD", x.summary(2, 6), 64);
        d.due("START does not count", x.summary(2, 1), 0);
        d.due("of 0", x.summary(1, 0), 1);
        d.due("THE TABLE stays", x.count(4), twoCalls().count(4));
        x.cuts(0);
        d.due("no way through", x.summary(2, 3), 0);
        // PROC 0 comes not to the CALL of PROC 1, and START is what goes in there.
        MatchedFlows y = Due.made("p;n0;n0;c4 1 5;e2 3;f0 1 0 3;s3");
        d.due("PROC 1 is not called", y.holds(3), 0);
        d.due("of PROC 1, not of PROC 0", y.summary(0, 0), 3);
        d.due("of PROC 0 again", y.holds(3), 0);
        // PROC 0 calls PROC 2, as PROC 1 does, which is not called; nothing of the SUMMARY of PROC 1 may stay.
        MatchedFlows z = Due.made("p;p;n0;n0;n0;n1;c6 1 7;c2 2 9;c0 2 8;e4 5;e9 3");
        d.due("PROC 1 alone", z.summary(0, 0), 1);
        d.due("back to PROC 0", z.holds(8), 1);
        d.due("not to PROC 1", z.holds(9), 0);
    }

    /** Within, (0, 2) calls (0, 3), whose 5 at the EXIT would go by OUT to 6. */
    private static void summarySuch(Due d) {
        MatchedFlows y = Due.made("n0;c0 0 2;e2 1;e0 1;" + notBeside(0, 0) + "f0 1 1 4;f0 1 2 8;f2 0 3 32;f0 2 5 64;f1 0 6 0");
        d.due("(0, 2) alone", y.summary(0, 1), 4);
        d.due("(0, 3) alone", y.summary(0, 2), 64);
        y.flows(0, 1, 1, 12);
        d.due("both", y.summary(0, 1), 68);
        MatchedFlows z = Due.made("p;c0 1 1;e2 3;f0 1 1 6;f1 0 1 24;f1 0 2 32;f0 2 3 2;f0 2 4 128;f0 2 5 0");
        d.due("each e of each c", z.summary(0, 1), 130);
        z.flows(0, 2, 5, 254);
        d.due("each d", z.summary(0, 1), 254);
    }

    private static void summaryNotBeside(Due d) {
        MatchedFlows x = Due.made("p;c0 1 1;e2 3;f0 0 1 254");
        d.due("through alone", x.summary(0, 1), 2);
        x.cuts(1);
        d.due("no way through", x.summary(0, 1), 0);
        d.due("nor of 0", x.summary(0, 0), 0);
    }

    // ---- WITNESS

    /** FACT 3 at NODE 2 comes first of FACT 1 at the ENTRY, later of FACT 0; FACT 4 the other way round. */
    private static void witnessOfFirst(Due d) {
        MatchedFlows x = Due.made("n0;n0;e0 2;e0 3;e3 2;s3;f0 0 1 8;f0 0 0 17;f2 0 0 9;f2 0 1 16");
        d.due("3 comes of both and itself", x.origins(2, 3), 11);
        d.due("4 comes of both and itself", x.origins(2, 4), 19);
        d.pairs(x, 2, 3, 1, 23);
        d.pairs(x, 2, 4, 0, 24);
    }

    /** NODE 4 is reached by two rows; the one that came first counts, though the other's EDGE has a lesser number. */
    private static void wayAsItCame(Due d) {
        MatchedFlows x = Due.made("n0;n0;n0;e3 4;e2 4;e0 2;e0 3");
        d.pairs(x, 4, 0, 0, 20, 40);
        MatchedFlows y = Due.made("n0;n0;n0;e0 2;e2 3;e3 4;e0 4");
        d.pairs(y, 4, 0, 0, 40);
        MatchedFlows loop = Due.made("n0;e0 2;e2 2;e2 1");
        d.pairs(loop, 2, 0, 0, 20);
        d.pairs(loop, 1, 0, 0, 20, 10);
    }

    private static void wayOfStart(Due d) {
        MatchedFlows x = Due.made("s129;c0 0 1;f0 1 0 129");
        d.pairs(x, 0, 0, 0);
        d.pairs(x, 0, 7, 7);
        d.pairs(new MatchedFlows(), 0, 0, 0);
    }

    private static void wayByCall(Due d) {
        MatchedFlows x = Due.made("p;p;n0;e0 6;c6 1 1;c2 2 3;s3;f1 1 1 8;f2 1 3 16");
        d.pairs(x, 2, 3, 1, 61, 23);
        d.pairs(x, 4, 4, 1, 61, 23, 44);
        // PROC 0 calls itself: FACT 5 at its ENTRY is not of START.
        d.pairs(Due.made("c0 0 1;f0 1 0 33"), 0, 5, 0, 5);
    }

    private static void wayByPlain(Due d) {
        MatchedFlows x = Due.made("p;n0;n0;e0 4;c4 1 5;e5 1;s3;f0 0 1 4;f1 0 2 8;f2 0 3 16");
        d.pairs(x, 4, 2, 1, 42);
        d.pairs(x, 5, 3, 1, 42, 53);
        d.pairs(x, 1, 4, 1, 42, 53, 14);
    }

    private static void wayByOut(Due d) {
        MatchedFlows x = Due.made("p;n0;n0;n1;e0 4;c4 1 5;e2 6;e6 3;e5 1;s3;f1 0 1 0;f1 1 1 4;f2 0 2 8;f1 2 3 16");
        d.pairs(x, 5, 4, 1, 41, 22, 63, 33, 54);
        d.pairs(x, 1, 4, 1, 41, 22, 63, 33, 54, 14);
        // NODES 4 and 5 call; by 4 PROC 1 was come into first.
        MatchedFlows two = Due.made("p;n0;n0;n0;n0;e0 4;e0 5;c4 1 6;c5 1 7;e2 3;s3;f2 0 1 0;f3 0 1 0");
        d.pairs(two, 6, 1, 1, 41, 21, 31, 61);
        d.pairs(two, 7, 1, 1, 51, 21, 31, 71);
        // The same through what is known already: NODE 7 calls when PROC 1 has been gone through.
        MatchedFlows y = Due.made("p;n0;n0;n0;n0;n0;e2 3;c0 1 4;e4 5;e5 6;e6 7;c7 1 8;s3;f5 0 1 0;f5 2 1 8");
        d.pairs(y, 8, 3, 1, 41, 51, 61, 71, 21, 31, 83);
    }

    private static void inner(Due d) {
        // PROC 1 calls PROC 2; PROC 1 was called first by the long row, but the WITNESS at 8 goes by its own CALL.
        MatchedFlows x = Due.made("p;p;n0;n0;n0;n1;c0 1 6;c6 1 7;e7 8;c2 2 9;e9 3;e4 5;s3;f0 0 1 0;f1 0 1 0;f3 0 1 0");
        d.pairs(x, 7, 1, 1, 21, 41, 51, 91, 31, 61, 21, 41, 51, 91, 31, 71);
        d.pairs(x, 5, 1, 1, 21, 41, 51);
        d.pairs(x, 9, 1, 1, 21, 41, 51, 91);
        // A PROC that calls itself with another FACT: INNER ends at that FACT's own PAIR.
        String itself = "n0;e0 1;c0 0 2;e2 1;s3;f0 0 1 0;f1 1 1 4;f1 2 2 8;" + notBeside(1, 1);
        MatchedFlows y = Due.made(itself + "f1 1 2 0");
        d.pairs(y, 2, 3, 1, 2, 12, 23);
        d.pairs(y, 1, 3, 1, 2, 12, 23, 13);
        d.pairs(y, 0, 2, 1, 2);
        // Where that FACT goes in again as itself, the first return is to its own ENTRY.
        d.pairs(Due.made(itself), 2, 3, 1, 2, 2, 12, 23);
    }

    /**
     * PROCS 0 to 3 call the next one 3, 3, 4 and 5 times in a row, PROC 4 has two NODES in a row: 997 PAIRS lead
     * to the last NODE of PROC 0 with FACT 1, and a loop there makes of it 2, 3 and so on, with one PAIR more each.
     */
    private static MatchedFlows longRows() {
        StringBuilder s = new StringBuilder("p;p;p;p;n0;n0;n0;n1;n1;n2;n2;n2;n3;n3;n3;n3;n4;n4;s3;");
        int[] first = {10, 13, 15, 18};
        int[] calls = {3, 3, 4, 5};
        for (int p = 0; p < 4; p++) {
            for (int i = 0; i < calls[p]; i++) {
                int from = i == 0 ? 2 * p : first[p] + i - 1;
                int to = p > 0 && i == calls[p] - 1 ? 2 * p + 1 : first[p] + i;
                s.append("c" + from + " " + (p + 1) + " " + to + ";");
            }
        }
        s.append(Due.rows("f# 0 1 0;", 0, 14)).append("e8 22;e22 23;e23 9;e12 12;e12 1;");
        return Due.made(s + "f18 0 7 0;f18 0 1 4;f18 0 2 8;f18 0 3 16;f18 0 4 32;f18 0 5 64;f18 0 6 128");
    }

    private static void thousandPairs(Due d) {
        MatchedFlows x = longRows();
        int[] many = {997, 998, 999, 1000, 1000, 1000, 1000};
        for (int f = 1; f < 8; f++) {
            int last = Math.min(996 + f, 1000);
            d.due("PAIRS of " + f, x.witness(12, f, NONE), many[f - 1]);
            d.due("the last of " + f, x.witness(12, f, last - 1), f < 5 ? 120 + f : 124);
            d.due("behind the last of " + f, x.witness(12, f, last), NONE);
            d.due("the first of " + f, x.witness(12, f, 0), 1);
            d.due("ahead of the loop", x.witness(12, f, 996), 121);
        }
        d.due("at the EXIT", x.witness(1, 1, NONE), 998);
        d.due("at the EXIT", x.witness(1, 7, NONE), 1000);
        d.due("the last told there", x.witness(1, 7, 999), 124);
        d.due("none behind", x.witness(1, 7, 1000), NONE);
        deepest(d);
    }

    /**
     * Each PROC calls itself twice with FACT a as a + 1, and with FACT 7 the next PROC twice with 1: each of 35 such
     * levels has twice the PAIRS of the one below it, far more than an int can count.
     */
    private static void deepest(Due d) {
        StringBuilder s = new StringBuilder("p;p;p;p;n0;n1;n2;n3;n4;s3;");
        int e = 0;
        for (int p = 0; p < 5; p++) {
            int[] ends = {2 * p, 10 + p, 2 * p + 1};
            for (int i = 0; i < 2; i++) {
                s.append("c" + ends[i] + " " + p + " " + ends[i + 1] + ";" + notBeside(e, e));
                for (int a = 1; a < 7; a++) s.append("f" + e + " 1 " + a + " " + (2 << a) + ";f" + e + " 2 " + (a + 1) + " " + (1 << a) + ";");
                s.append("f" + e + " 1 7 0;f" + e + " 2 1 0;");
                e++;
            }
            for (int i = 0; i < 2 && p < 4; i++) {
                s.append("c" + ends[i] + " " + (p + 1) + " " + ends[i + 1] + ";" + notBeside(e, e));
                s.append(Due.rows("f" + e + " 1 # 0;", 1, 6) + "f" + e + " 1 7 2;f" + e + " 2 1 128;");
                e++;
            }
        }
        MatchedFlows x = Due.made(s + "e8 9;" + Due.rows("f" + e + " 0 # 0;", 1, 6));
        d.due("the deepest", x.witness(1, 1, NONE), 1000);
        int[] first = {1, 2, 3, 4, 5, 6, 7, 21, 22, 23, 24, 25, 26, 27, 41};
        for (int i = 0; i < first.length; i++) d.due("down, pair " + i, x.witness(1, 1, i), first[i]);
        int[] turn = {81, 82, 83, 84, 85, 86, 87, 97, 146, 87, 97, 96, 145, 86, 87, 97, 146};
        for (int i = 0; i < turn.length; i++) d.due("at the turn, pair " + (28 + i), x.witness(1, 1, 28 + i), turn[i]);
        d.due("the last told is one", x.witness(1, 1, 999) > 0 ? 1 : 0, 1);
        d.due("none behind", x.witness(1, 1, 1000), NONE);
    }

    // ---- Promises 13 to 18

    private static final int[] NO_NODES = {6, -1, 24, LEAST, MOST};

    private static void holdsBits(Due d) {
        MatchedFlows x = Due.made("p;n0;n0;e0 4;c4 1 5;s255");
        d.due("all", x.holds(4), 255);
        d.due("into PROC 1", x.holds(2), 255);
        d.due("none", x.holds(3), 0);
        d.due("all through", Due.more(x, "e2 3").holds(3), 255);
        d.due("none again", Due.more(x, "x2").holds(3), 0);
        d.due("FACT 7", Due.more(x, "s129").holds(5), 129);
        d.due("the last NODE", Due.made("n0;".repeat(22) + "e0 23").holds(23), 1);
    }

    private static void holdsBad(Due d) {
        for (int n : NO_NODES) d.refused("holds " + n, twoCalls(), twoCalls(), BAD, x -> x.holds(n));
        d.due("the last NODE", twoCalls().holds(5), 5);
    }

    private static void looseBits(Due d) {
        MatchedFlows x = Due.made("p;n0;n0;e0 4;c4 1 5;s255");
        d.due("all", x.loose(4), 255);
        d.due("into PROC 1", x.loose(2), 255);
        d.due("none", x.loose(3), 0);
        d.due("all through", Due.more(x, "e2 3").loose(3), 255);
        d.due("none again", Due.more(x, "x2").loose(3), 0);
        d.due("FACT 7", Due.more(x, "s129").loose(5), 129);
        d.due("the last NODE", Due.made("n0;".repeat(22) + "e0 23").loose(23), 1);
    }

    private static void looseBad(Due d) {
        for (int n : NO_NODES) d.refused("loose " + n, twoCalls(), twoCalls(), BAD, x -> x.loose(n));
        d.due("the last NODE", twoCalls().loose(5), 7);
    }

    private static void originsBits(Due d) {
        MatchedFlows x = Due.made("e0 1;f0 0 1 128;f0 0 7 130");
        d.due("7 of 1 and of itself", x.origins(1, 7), 130);
        d.due("1 of 7", x.origins(1, 1), 128);
        d.due("at the ENTRY", x.origins(0, 1), 2);
        d.due("0 of 0", x.origins(1, 0), 1);
        d.due("after it, what holds by START", x.holds(1), 1);
    }

    private static void originsBad(Due d) {
        for (int n : NO_NODES) d.refused("origins " + n, twoCalls(), twoCalls(), BAD, x -> x.origins(n, 0));
        for (int f : new int[] {8, -1, LEAST, MOST}) {
            d.refused("origins of " + f, twoCalls(), twoCalls(), BAD, x -> x.origins(0, f));
        }
    }

    private static void summaryBits(Due d) {
        MatchedFlows x = Due.made("p;c0 1 1;e2 3;f0 1 7 254;f0 2 3 0;f0 2 4 2");
        d.due("all but 3 and 4", x.summary(0, 7), 230);
        d.due("4 as 1", x.summary(0, 4), 2);
        d.due("3 goes not out", x.summary(0, 3), 0);
        d.due("after it, what holds by START", x.holds(1), 1);
    }

    private static void summaryRefused(Due d) {
        for (int e : new int[] {3, -1, 32, LEAST, MOST}) {
            d.refused("summary " + e, twoCalls(), twoCalls(), BAD, x -> x.summary(e, 0));
        }
        for (int b : new int[] {8, -1, LEAST, MOST}) {
            d.refused("summary of " + b, twoCalls(), twoCalls(), BAD, x -> x.summary(1, b));
            d.refused("BAD ahead of NO, of " + b, twoCalls(), twoCalls(), BAD, x -> x.summary(0, b));
        }
        d.refused("PLAIN", twoCalls(), twoCalls(), NO, x -> x.summary(0, 0));
        d.due("the last one", twoCalls().summary(2, 2), 4);
        d.due("no EDGES", new MatchedFlows().summary(0, 0), BAD);
    }

    private static void entryParts(Due d) {
        MatchedFlows x = Due.made("p;p;p;n2;c0 2 1;e4 8;f0 1 0 33;f1 0 5 64");
        int[] want = {2, 5, 8, 6};
        for (int what = 0; what < 4; what++) d.due("what " + what, x.entry(5, what), want[what]);
        for (int what = 0; what < 4; what++) d.due("the first, " + what, x.entry(0, what), 0);
    }

    private static void entryNone(Due d) {
        MatchedFlows x = Due.made("e0 1");
        d.due("the last", x.entry(1, 2), 1);
        for (int what = 0; what < 4; what++) d.due("behind it", x.entry(2, what), NONE);
        d.due("far behind", x.entry(1536, 0), NONE);
        d.due("far behind", x.entry(MOST, 3), NONE);
        d.due("not refused", x.told(0) + x.told(1) + x.told(2), 0);
    }

    private static void entryBad(Due d) {
        int[][] bad = {{-1, 0}, {LEAST, 0}, {0, 4}, {0, -1}, {0, LEAST}, {0, MOST}, {MOST, 4}, {999, -1}};
        for (int[] v : bad) {
            d.refused("entry " + v[0] + " " + v[1], twoCalls(), twoCalls(), BAD, x -> x.entry(v[0], v[1]));
        }
    }

    private static void witnessMany(Due d) {
        MatchedFlows x = Due.made("n0;n0;e0 2;e2 3;e3 1");
        int[] many = {1, 4, 2, 3};
        for (int n = 0; n < 4; n++) d.due("to " + n, x.witness(n, 0, NONE), many[n]);
        d.due("the most", longRows().witness(12, 5, NONE), 1000);
    }

    private static void witnessPair(Due d) {
        MatchedFlows x = Due.made("n0;".repeat(22) + "e0 23;e23 1;f0 0 0 129;f1 0 7 8");
        int[] pairs = {0, 237, 13};
        for (int i = 0; i < 3; i++) d.due("pair " + i, x.witness(1, 3, i), pairs[i]);
    }

    private static void witnessNone(Due d) {
        MatchedFlows x = twoCalls();
        d.due("the last", x.witness(5, 2, 3), 52);
        d.due("not so many", x.witness(5, 2, 4), NONE);
        d.due("far from it", x.witness(5, 2, MOST), NONE);
        d.due("does not hold", x.witness(5, 1, NONE), NONE);
        d.due("does not hold", x.witness(5, 1, 0), NONE);
        d.due("nothing holds", x.witness(1, 0, NONE), NONE);
        d.due("not refused", x.told(0) + x.told(1) + x.told(2), 0);
    }

    private static void witnessBad(Due d) {
        for (int i : new int[] {-2, LEAST}) {
            d.refused("witness i " + i, twoCalls(), twoCalls(), BAD, x -> x.witness(5, 2, i));
            d.refused("though it does not hold, i " + i, twoCalls(), twoCalls(), BAD, x -> x.witness(5, 1, i));
        }
        for (int n : NO_NODES) d.refused("witness " + n, twoCalls(), twoCalls(), BAD, x -> x.witness(n, 0, NONE));
        for (int f : new int[] {8, -1, LEAST, MOST}) {
            d.refused("witness of " + f, twoCalls(), twoCalls(), BAD, x -> x.witness(0, f, NONE));
        }
    }
}
