import java.util.List;

/** "What it is", "The public face", the program's part of "Terms", and promises 1 to 12. */
final class ProgramSentences {
    private static final int NONE = Due.NONE, BAD = Due.BAD, NO = Due.NO, FULL = Due.FULL;
    private static final int LEAST = Integer.MIN_VALUE, MOST = Integer.MAX_VALUE;

    private ProgramSentences() { }

    static List<Sentence> all() {
        return List.of(
            new Sentence("What it is", "PROCS 0 on (never more than 5; 0 is there at first)", ProgramSentences::procs),
            new Sentence("What it is", "An object is used for at most 512 calls", ProgramSentences::calls512),
            new Sentence("The public face", "NONE = -1, BAD = -2, NO = -3, FULL = -4", ProgramSentences::constants),
            new Sentence("Terms", "NODES 0 on, as they come (never more than 24), each of a PROC", ProgramSentences::nodes),
            new Sentence("Terms", "a new PROC brings two, its ENTRY, then its EXIT (PROC 0: NODES 0 and 1)",
                ProgramSentences::procBringsTwo),
            new Sentence("Terms", "FACTS 0 .. 7", ProgramSentences::facts),
            new Sentence("Terms", "of FACT 0 to 0 at least", ProgramSentences::zeroGoesToZero),
            new Sentence("Terms", "of others never to 0", ProgramSentences::othersNeverToZero),
            new Sentence("Terms", "Plain at first: each FACT goes to itself alone", ProgramSentences::plainAtFirst),
            new Sentence("Terms", "EDGES 0 on, as they come (never more than 32)", ProgramSentences::edges),
            new Sentence("Terms", "each PLAIN, from NODE n to m, both of one PROC, with a FLOW", ProgramSentences::plainEdge),
            new Sentence("Terms", "a CALL from NODE n to PROC q (perhaps its own)", ProgramSentences::callOfItsOwn),
            new Sentence("Terms", "back to NODE m of n's PROC", ProgramSentences::callComesBack),
            new Sentence("Terms", "with three FLOWS: BESIDE (from n to m), IN (from n to q's ENTRY), OUT (from q's EXIT to m)",
                ProgramSentences::threeFlows),
            new Sentence("Terms", "None begins at an EXIT", ProgramSentences::noneBeginsAtExit),
            new Sentence("Terms", "none ends (m) at an ENTRY", ProgramSentences::noneEndsAtEntry),
            new Sentence("Terms", "START: FACTS at PROC 0's ENTRY (0 always; it alone at first)", ProgramSentences::start),
            new Sentence("Promise 1", "As told; PROC 0, no EDGES.", ProgramSentences::newObject),
            new Sentence("Promise 2", "A new PROC with its ENTRY and EXIT: its number.", ProgramSentences::procNumber),
            new Sentence("Promise 2", "FULL: 5", ProgramSentences::procFull),
            new Sentence("Promise 2", "or there would be more than 24 NODES", ProgramSentences::procNoRoom),
            new Sentence("Promise 3", "A new NODE of PROC p: its number.", ProgramSentences::nodeNumber),
            new Sentence("Promise 3", "BAD; FULL: 24.", ProgramSentences::nodeRefused),
            new Sentence("Promise 4", "A new PLAIN EDGE from n to m: its number.", ProgramSentences::edgeNumber),
            new Sentence("Promise 4", "BAD: not of one PROC, n an EXIT, m an ENTRY, too", ProgramSentences::edgeBad),
            new Sentence("Promise 4", "FULL: 32.", ProgramSentences::edgeFull),
            new Sentence("Promise 5", "A new CALL from n to PROC q, back to m: its number.", ProgramSentences::callNumber),
            new Sentence("Promise 5", "BAD, likewise", ProgramSentences::callBad),
            new Sentence("Promise 5", "FULL: 32.", ProgramSentences::callFull),
            new Sentence("Promise 6", "FLOW w of EDGE e (0 its FLOW, of a CALL BESIDE; of a CALL 1 IN, 2 OUT)",
                ProgramSentences::flowsWhich),
            new Sentence("Promise 6", "FACT a goes to FACTS v (bits): to which it went.", ProgramSentences::flowsWent),
            new Sentence("Promise 6", "BAD: v has not FACT 0 though a is 0, or has it though a is not, too.",
                ProgramSentences::flowsBad),
            new Sentence("Promise 7", "START becomes v (bits): what it was.", ProgramSentences::startsWas),
            new Sentence("Promise 7", "BAD: FACT 0 is not in it, too.", ProgramSentences::startsBad),
            new Sentence("Promise 8", "EDGE e goes (numbers behind it are one less): how many are left.",
                ProgramSentences::cutsLeft),
            new Sentence("Promise 8", "S. BAD.", ProgramSentences::cutsBad),
            new Sentence("Promise 9", "its PROC (what 0), 0 ENTRY, 1 EXIT, 2 another one (1)", ProgramSentences::atTold),
            new Sentence("Promise 9", "BAD.", ProgramSentences::atBad),
            new Sentence("Promise 10", "n (what 0), m (1), its PROC q (2; NONE: PLAIN)", ProgramSentences::aboutTold),
            new Sentence("Promise 10", "BAD.", ProgramSentences::aboutBad),
            new Sentence("Promise 11", "FACTS (bits) to which FACT a goes by FLOW w of EDGE e.", ProgramSentences::goesTold),
            new Sentence("Promise 11", "BAD.", ProgramSentences::goesBad),
            new Sentence("Promise 12", "PROCS (what 0), NODES (1), EDGES (2), START (3, bits)", ProgramSentences::counted),
            new Sentence("Promise 12", "ENTRIES of THE TABLE (4), NODES at which FACT 0 HOLDS (5)",
                ProgramSentences::countedOfTable),
            new Sentence("Promise 12", "BAD.", ProgramSentences::countBad));
    }

    // ---- What it is, the public face

    private static void procs(Due d) {
        MatchedFlows x = new MatchedFlows();
        d.due("PROC 0 is there", x.count(0), 1);
        for (int p = 1; p <= 4; p++) d.due("proc", x.proc(), p);
        d.due("a sixth", x.proc(), FULL);
        d.due("five", x.count(0), 5);
        d.due("the last is one to make NODES of", x.node(4), 10);
        d.due("and to call", x.call(0, 4, 1), 0);
        d.due("four by THE TEXT", Due.does("p;p;p;p;"), 4);
        d.due("five by THE TEXT", Due.does("p;p;p;p;p;"), -1004);
    }

    private static void calls512(Due d) {
        MatchedFlows bad = new MatchedFlows();
        for (int i = 0; i < 511; i++) bad.told(-1);
        d.due("511 times BAD", bad.told(0), 511);
        MatchedFlows no = new MatchedFlows();
        for (int i = 0; i < 511; i++) no.back();
        d.due("511 times NO", no.told(1), 511);
        MatchedFlows full = Due.made("p;p;p;p");
        for (int i = 4; i < 511; i++) full.proc();
        d.due("507 times FULL", full.told(2), 507);
        MatchedFlows much = new MatchedFlows();
        for (int i = 0; i < 511; i++) d.due("starts", much.starts(i % 128 * 2 + 1), i == 0 ? 1 : (i - 1) % 128 * 2 + 1);
        d.due("the 512th", much.count(3), 510 % 128 * 2 + 1);
        MatchedFlows cut = new MatchedFlows();
        for (int i = 0; i < 255; i++) {
            d.due("edge", cut.edge(0, 1), 0);
            d.due("cuts", cut.cuts(0), 0);
        }
        d.due("edge", cut.edge(0, 1), 0);
        d.due("the 512th", cut.holds(1), 1);
    }

    /** Not by their names, which javac would write out as numbers when this file is compiled. */
    private static void constants(Due d) {
        String[] names = {"NONE", "BAD", "NO", "FULL"};
        for (int i = 0; i < 4; i++) {
            try {
                d.due(names[i], MatchedFlows.class.getField(names[i]).getInt(null), -1 - i);
            } catch (ReflectiveOperationException e) {
                d.due(names[i] + " is not there", 0, 1);
            }
        }
    }

    // ---- Terms

    private static void nodes(Due d) {
        MatchedFlows x = new MatchedFlows();
        d.due("of PROC 0", x.node(0), 2);
        d.due("PROC 1 has 3 and 4", x.proc(), 1);
        d.due("of PROC 1", x.node(1), 5);
        d.due("of PROC 0", x.node(0), 6);
        int[] procs = {0, 0, 0, 1, 1, 1, 0};
        for (int n = 0; n < 7; n++) d.due("the PROC of " + n, x.at(n, 0), procs[n]);
        for (int n = 7; n < 24; n++) d.due("node", x.node(n % 2), n);
        d.due("a 25th", x.node(0), FULL);
        d.due("24", x.count(1), 24);
        d.due("the last one", x.at(23, 0), 1);
        d.due("an EDGE to it", x.edge(3, 23), 0);
        d.due("what holds at it", x.holds(23), 0);
        d.due("no 24", x.at(24, 0), BAD);
    }

    private static void procBringsTwo(Due d) {
        MatchedFlows x = Due.made("n0;p;n0;p");
        int[][] ends = {{0, 1}, {3, 4}, {6, 7}};
        for (int p = 0; p < 3; p++) {
            for (int kind = 0; kind < 2; kind++) {
                d.due("PROC of " + ends[p][kind], x.at(ends[p][kind], 0), p);
                d.due("kind of " + ends[p][kind], x.at(ends[p][kind], 1), kind);
            }
        }
        d.due("eight in all", x.count(1), 8);
    }

    private static void facts(Due d) {
        MatchedFlows x = Due.made("e0 1;c0 0 1;s129");
        d.due("flows of 7", x.flows(0, 0, 7, 2), 128);
        d.due("flows of 8", x.flows(0, 0, 8, 2), BAD);
        d.due("flows of -1", x.flows(0, 0, -1, 2), BAD);
        d.due("goes of 7", x.goes(1, 2, 7), 128);
        d.due("goes of 8", x.goes(1, 2, 8), BAD);
        d.due("goes of -1", x.goes(1, 2, -1), BAD);
        d.due("origins of 7", x.origins(0, 7), 128);
        d.due("origins of 8", x.origins(0, 8), BAD);
        d.due("origins of -1", x.origins(0, -1), BAD);
        d.due("summary of 7", x.summary(1, 7), 130);
        d.due("summary of 8", x.summary(1, 8), BAD);
        d.due("summary of -1", x.summary(1, -1), BAD);
        d.due("witness of 7", x.witness(0, 7, 0), 7);
        d.due("witness of 8", x.witness(0, 8, 0), BAD);
        d.due("witness of -1", x.witness(0, -1, 0), BAD);
        d.due("all of them", x.starts(255), 129);
        d.due("and an eighth", x.starts(511), BAD);
    }

    private static void zeroGoesToZero(Due d) {
        MatchedFlows x = Due.made("e0 1;c0 0 1");
        for (int e = 0; e < 2; e++) {
            for (int w = 0; w < 1 + 2 * e; w++) {
                d.due("to none", x.flows(e, w, 0, 0), BAD);
                d.due("to all others", x.flows(e, w, 0, 254), BAD);
                d.due("still plain", x.goes(e, w, 0), 1);
                d.due("to all", x.flows(e, w, 0, 255), 1);
                d.due("to it alone", x.flows(e, w, 0, 1), 255);
            }
        }
        d.due("by THE TEXT", Due.does(Due.made("e0 1"), "f0 0 0 254;"), -1000);
    }

    private static void othersNeverToZero(Due d) {
        MatchedFlows x = Due.made("e0 1;c0 0 1");
        for (int a = 1; a < 8; a++) {
            d.due("to 0 alone", x.flows(1, a % 3, a, 1), BAD);
            d.due("to all", x.flows(1, a % 3, a, 255), BAD);
            d.due("to itself and 0", x.flows(0, 0, a, 1 << a | 1), BAD);
            d.due("still plain", x.goes(1, a % 3, a), 1 << a);
            d.due("to all but 0", x.flows(1, a % 3, a, 254), 1 << a);
            d.due("to none", x.flows(1, a % 3, a, 0), 254);
            d.due("none", x.goes(1, a % 3, a), 0);
        }
        d.due("by THE TEXT", Due.does(Due.made("e0 1"), "f0 0 1 3;"), -1000);
    }

    private static void plainAtFirst(Due d) {
        MatchedFlows x = Due.made("e0 1;c0 0 1;f1 0 3 0;f1 1 0 255;f1 1 7 2;f1 2 4 254;f1 2 0 129");
        x.cuts(1);
        x.call(0, 0, 1);
        for (int w = 0; w < 3; w++) for (int a = 0; a < 8; a++) d.due("of the CALL", x.goes(1, w, a), 1 << a);
        for (int a = 0; a < 8; a++) d.due("of the PLAIN one", x.goes(0, 0, a), 1 << a);
        MatchedFlows y = Due.made("e0 1;f0 0 5 6");
        y.back();
        y.back();
        y.edge(0, 1);
        d.due("where one was taken back", y.goes(0, 0, 5), 32);
    }

    private static void edges(Due d) {
        MatchedFlows x = Due.made("n0");
        for (int e = 0; e < 32; e++) d.due("its number", e % 2 == 0 ? x.edge(0, 2) : x.call(2, 0, 1), e);
        d.due("a 33rd", x.edge(0, 2), FULL);
        d.due("a 33rd", x.call(2, 0, 1), FULL);
        d.due("32", x.count(2), 32);
        d.due("the last one", x.about(31, 0) * 10 + x.about(31, 1), 21);
        d.due("its OUT", x.flows(31, 2, 7, 254), 128);
        d.due("its OUT", x.goes(31, 2, 7), 254);
        d.due("no 32", x.about(32, 0), BAD);
        d.due("one goes", x.cuts(0), 31);
        d.due("room for one", x.edge(0, 1), 31);
        d.due("and no more", x.edge(0, 1), FULL);
    }

    private static void plainEdge(Due d) {
        MatchedFlows x = Due.made("p;n0;n1");
        d.due("to the other EXIT", x.edge(0, 3), BAD);
        d.due("from the other ENTRY", x.edge(2, 1), BAD);
        d.due("to the other's NODE", x.edge(4, 5), BAD);
        d.due("from the other's NODE", x.edge(5, 4), BAD);
        d.due("within PROC 0", x.edge(0, 1), 0);
        d.due("within PROC 1", x.edge(2, 3), 1);
        d.due("to itself", x.edge(5, 5), 2);
        d.due("twice the same", x.edge(5, 5), 3);
        d.due("one FLOW", x.goes(0, 0, 0), 1);
        d.due("one FLOW alone", x.goes(0, 1, 0), BAD);
    }

    private static void callOfItsOwn(Due d) {
        MatchedFlows x = Due.made("p;p");
        d.due("its own", x.call(0, 0, 1), 0);
        d.due("another", x.call(0, 1, 1), 1);
        d.due("its own", x.call(4, 2, 5), 2);
        d.due("a lesser one", x.call(4, 0, 5), 3);
        d.due("the last PROC", x.call(0, 2, 1), 4);
        d.due("no PROC", x.call(0, 3, 1), BAD);
        d.due("no PROC", x.call(0, -1, 1), BAD);
    }

    private static void callComesBack(Due d) {
        MatchedFlows x = Due.made("p;n0;n1");
        d.due("back to q's EXIT", x.call(0, 1, 3), BAD);
        d.due("back to q's NODE", x.call(0, 1, 5), BAD);
        d.due("back to another PROC", x.call(2, 1, 4), BAD);
        d.due("to its own PROC", x.call(0, 1, 4), 0);
        d.due("to its own n", x.call(5, 0, 5), 1);
    }

    private static void threeFlows(Due d) {
        String cut = Due.rows("f0 0 # 0;f0 1 # 0;f0 2 # 0;", 1, 7);
        String way = "p;n0;c0 1 4;e2 3;s3;" + cut;
        MatchedFlows none = Due.made(way);
        d.due("nothing goes", none.holds(4), 1);
        d.due("nothing goes in", none.holds(2), 1);
        MatchedFlows beside = Due.made(way + "f0 0 1 4");
        d.due("BESIDE from n to m", beside.holds(4), 5);
        d.due("not into q", beside.holds(2), 1);
        MatchedFlows in = Due.made(way + "f0 1 1 8");
        d.due("IN to q's ENTRY", in.holds(2), 9);
        d.due("not out", in.holds(4), 1);
        MatchedFlows out = Due.made(way + "f0 1 1 8;f0 2 3 16");
        d.due("OUT from q's EXIT to m", out.holds(4), 17);
    }

    private static void noneBeginsAtExit(Due d) {
        MatchedFlows x = Due.made("p;n0;n1");
        d.due("edge from EXIT 0", x.edge(1, 4), BAD);
        d.due("edge from EXIT 0 to itself", x.edge(1, 1), BAD);
        d.due("edge from EXIT 1", x.edge(3, 5), BAD);
        d.due("call from EXIT 0", x.call(1, 1, 4), BAD);
        d.due("call from EXIT 1", x.call(3, 1, 5), BAD);
        d.due("edge from an ENTRY", x.edge(2, 5), 0);
        d.due("call from an ENTRY", x.call(2, 1, 5), 1);
        d.due("by THE TEXT", Due.does("n0;e1 2;"), -1001);
    }

    private static void noneEndsAtEntry(Due d) {
        MatchedFlows x = Due.made("p;n0;n1");
        d.due("edge to ENTRY 0", x.edge(4, 0), BAD);
        d.due("edge of ENTRY 0 to itself", x.edge(0, 0), BAD);
        d.due("edge to ENTRY 1", x.edge(5, 2), BAD);
        d.due("call back to ENTRY 0", x.call(4, 1, 0), BAD);
        d.due("call back to ENTRY 1", x.call(5, 1, 2), BAD);
        d.due("edge to an EXIT", x.edge(5, 3), 0);
        d.due("call back to an EXIT", x.call(5, 1, 3), 1);
        d.due("by THE TEXT", Due.does("n0;e2 0;"), -1001);
    }

    private static void start(Due d) {
        MatchedFlows x = Due.made("p;n0");
        d.due("0 alone", x.count(3), 1);
        d.due("0 alone holds", x.holds(0), 1);
        d.due("not at PROC 1's ENTRY", x.holds(2), 0);
        d.due("nor at other NODES", x.holds(4), 0);
        d.due("without 0", x.starts(254), BAD);
        d.due("none", x.starts(0), BAD);
        d.due("all", x.starts(255), 1);
        d.due("all hold", x.holds(0), 255);
        d.due("loosely, too", x.loose(0), 255);
        d.due("not at PROC 1's ENTRY", x.holds(2) + x.loose(2), 0);
    }

    // ---- Promises 1 to 12

    private static void newObject(Due d) {
        MatchedFlows x = new MatchedFlows();
        int[] counts = {1, 2, 0, 1, 1, 1};
        for (int what = 0; what < 6; what++) d.due("count " + what, x.count(what), counts[what]);
        for (int what = 0; what < 5; what++) d.due("told " + what, x.told(what), 0);
        d.due("THE TEXT is empty", x.clear(), 0);
        d.due("no STATE", x.back(), NO);
        d.due("no EDGE", x.about(0, 0), BAD);
        d.due("no NODE 2", x.at(2, 0), BAD);
        d.due("no PROC 1", x.node(1), BAD);
        MatchedFlows y = Due.made("p;s255;n1");
        y.type(65);
        d.due("another object", new MatchedFlows().count(1), 2);
        d.due("is another one", new MatchedFlows().told(3), 0);
    }

    private static void procNumber(Due d) {
        MatchedFlows x = Due.made("n0;n0;n0");
        d.due("first", x.proc(), 1);
        d.due("its ENTRY", x.at(5, 0) * 10 + x.at(5, 1), 10);
        d.due("its EXIT", x.at(6, 0) * 10 + x.at(6, 1), 11);
        d.due("second", x.proc(), 2);
        d.due("called, its ENTRY", Due.more(x, "c0 2 1").holds(7), 1);
        d.due("not PROC 1's", x.holds(5), 0);
    }

    private static void procFull(Due d) {
        d.refused("a sixth", Due.made("p;p;p;p"), Due.made("p;p;p;p"), FULL, MatchedFlows::proc);
        MatchedFlows x = Due.made("p;p;p;p");
        x.back();
        d.due("again", x.proc(), 4);
    }

    private static void procNoRoom(Due d) {
        MatchedFlows x = Due.made("n0;".repeat(20));
        d.due("22 NODES", x.count(1), 22);
        d.due("two more", x.proc(), 1);
        d.due("24 NODES", x.count(1), 24);
        d.due("its EXIT", x.at(23, 1), 1);
        String almost = "n0;".repeat(21);
        d.refused("with 23", Due.made(almost), Due.made(almost), FULL, MatchedFlows::proc);
        d.refused("with 24", Due.made(almost + "n0"), Due.made(almost + "n0"), FULL, MatchedFlows::proc);
    }

    private static void nodeNumber(Due d) {
        MatchedFlows x = Due.made("p;p");
        for (int p = 0; p < 3; p++) {
            d.due("its number", x.node(p), 6 + p);
            d.due("its PROC", x.at(6 + p, 0), p);
            d.due("another one", x.at(6 + p, 1), 2);
        }
    }

    private static void nodeRefused(Due d) {
        for (int p : new int[] {2, -1, 5, LEAST, MOST}) {
            d.refused("node " + p, Due.made("p"), Due.made("p"), BAD, x -> x.node(p));
        }
        String full = "n0;".repeat(22);
        d.due("the 24th", Due.made("n0;".repeat(21)).node(0), 23);
        d.refused("a 25th", Due.made(full), Due.made(full), FULL, x -> x.node(0));
        d.refused("BAD ahead of FULL", Due.made(full), Due.made(full), BAD, x -> x.node(1));
    }

    private static void edgeNumber(Due d) {
        MatchedFlows x = Due.made("n0;n0");
        d.due("first", x.edge(0, 3), 0);
        d.due("second", x.edge(3, 2), 1);
        d.due("from", x.about(1, 0), 3);
        d.due("to", x.about(1, 1), 2);
        d.due("PLAIN", x.about(1, 2), NONE);
        d.due("what holds", x.holds(2), 1);
    }

    private static void edgeBad(Due d) {
        String some = "p;n0;n1;e0 4";
        int[][] bad = {{0, 3}, {2, 1}, {4, 5}, {1, 4}, {1, 1}, {3, 5}, {4, 0}, {5, 2}, {0, 0}, {-1, 1}, {6, 1}, {0, -1},
            {0, 6}, {LEAST, 1}, {MOST, 1}, {0, LEAST}, {0, MOST}};
        for (int[] v : bad) {
            d.refused("edge " + v[0] + " " + v[1], Due.made(some), Due.made(some), BAD, x -> x.edge(v[0], v[1]));
        }
        d.due("the last NODE", Due.made(some).edge(2, 5), 1);
        MatchedFlows gone = Due.made("n0");
        gone.back();
        d.due("to a NODE that was taken back", gone.edge(0, 2), BAD);
        d.due("from a NODE that was taken back", gone.edge(2, 1), BAD);
    }

    private static void edgeFull(Due d) {
        String full = "e0 1;".repeat(32);
        d.due("the 32nd", Due.made("e0 1;".repeat(31)).edge(0, 1), 31);
        d.refused("a 33rd", Due.made(full), Due.made(full), FULL, x -> x.edge(0, 1));
        d.refused("BAD ahead of FULL", Due.made(full), Due.made(full), BAD, x -> x.edge(1, 1));
    }

    private static void callNumber(Due d) {
        MatchedFlows x = Due.made("p;p;n0;n0");
        d.due("first", x.call(0, 1, 7), 0);
        d.due("second", x.call(7, 2, 6), 1);
        d.due("from", x.about(1, 0), 7);
        d.due("back to", x.about(1, 1), 6);
        d.due("into", x.about(1, 2), 2);
        d.due("PROC 2 is called", x.holds(4), 1);
    }

    private static void callBad(Due d) {
        String some = "p;n0;n1;e0 4";
        int[][] bad = {{0, 1, 3}, {2, 1, 1}, {4, 0, 5}, {1, 1, 4}, {3, 1, 5}, {4, 1, 0}, {5, 0, 2}, {-1, 1, 1}, {6, 1, 1},
            {0, 1, -1}, {0, 1, 6}, {0, 2, 1}, {0, -1, 1}, {0, 5, 1}, {LEAST, 1, 1}, {MOST, 1, 1}, {0, LEAST, 1}, {0, MOST, 1},
            {0, 1, LEAST}, {0, 1, MOST}};
        for (int[] v : bad) {
            String what = "call " + v[0] + " " + v[1] + " " + v[2];
            d.refused(what, Due.made(some), Due.made(some), BAD, x -> x.call(v[0], v[1], v[2]));
        }
        d.due("the last NODE and PROC", Due.made(some).call(2, 1, 5), 1);
        MatchedFlows gone = Due.made("p;n0");
        gone.back();
        gone.back();
        d.due("of a PROC that was taken back", gone.call(0, 1, 1), BAD);
        d.due("back to a NODE that was taken back", gone.call(0, 0, 4), BAD);
    }

    private static void callFull(Due d) {
        String full = "c0 0 1;".repeat(32);
        d.due("the 32nd", Due.made("c0 0 1;".repeat(31)).call(0, 0, 1), 31);
        d.refused("a 33rd", Due.made("e0 1;".repeat(32)), Due.made("e0 1;".repeat(32)), FULL, x -> x.call(0, 0, 1));
        d.due("a 33rd of CALLS", Due.made(full).call(0, 0, 1), FULL);
        d.due("BAD ahead of FULL", Due.made(full).call(0, 1, 1), BAD);
        d.due("BAD ahead of FULL", Due.made(full).call(0, 0, 0), BAD);
    }

    private static void flowsWhich(Due d) {
        MatchedFlows x = Due.made("e0 1;c0 0 1;f0 0 1 4;f1 0 1 8;f1 1 1 16;f1 2 1 32");
        d.due("its FLOW", x.goes(0, 0, 1), 4);
        d.due("BESIDE", x.goes(1, 0, 1), 8);
        d.due("IN", x.goes(1, 1, 1), 16);
        d.due("OUT", x.goes(1, 2, 1), 32);
        d.due("1 of a PLAIN one", x.flows(0, 1, 1, 2), BAD);
        d.due("2 of a PLAIN one", x.flows(0, 2, 1, 2), BAD);
        d.due("3 of a CALL", x.flows(1, 3, 1, 2), BAD);
        d.due("-1 of a CALL", x.flows(1, -1, 1, 2), BAD);
        d.due("-1 of a PLAIN one", x.flows(0, -1, 1, 2), BAD);
    }

    private static void flowsWent(Due d) {
        MatchedFlows x = Due.made("e0 1;c0 0 1");
        for (int a = 1; a < 8; a++) {
            d.due("plain", x.flows(1, 1, a, 254), 1 << a);
            d.due("all", x.flows(1, 1, a, 128 >> a << 1 & 254), 254);
        }
        for (int a = 1; a < 8; a++) d.due("each for itself", x.goes(1, 1, a), 128 >> a << 1 & 254);
        d.due("FACT 0 stays", x.goes(1, 1, 0), 1);
        d.due("FACT 0", x.flows(1, 1, 0, 129), 1);
        d.due("FACT 0", x.flows(1, 1, 0, 3), 129);
        for (int a = 0; a < 8; a++) {
            d.due("BESIDE stays", x.goes(1, 0, a), 1 << a);
            d.due("OUT stays", x.goes(1, 2, a), 1 << a);
            d.due("the other EDGE stays", x.goes(0, 0, a), 1 << a);
        }
    }

    private static void flowsBad(Due d) {
        String some = "e0 1;c0 0 1;f1 1 2 8";
        int[][] bad = {{0, 0, 0, 0}, {0, 0, 0, 2}, {1, 1, 0, 254}, {0, 0, 1, 1}, {1, 2, 7, 255}, {1, 0, 1, 3}, {0, 0, 0, 256},
            {0, 0, 0, 257}, {0, 0, 1, 256}, {0, 0, 1, 258}, {0, 0, 1, -2}, {0, 0, 0, -1}, {0, 0, 0, LEAST + 1}, {0, 0, 1, LEAST},
            {0, 0, 0, MOST}, {0, 0, 8, 2}, {0, 0, -1, 2}, {0, 0, LEAST, 2}, {0, 0, MOST, 2}, {0, 1, 1, 2}, {0, 2, 1, 2},
            {1, 3, 1, 2}, {1, -1, 1, 2}, {1, LEAST, 1, 2}, {1, MOST, 1, 2}, {2, 0, 1, 2}, {-1, 0, 1, 2}, {LEAST, 0, 1, 2},
            {MOST, 0, 1, 2}};
        for (int[] v : bad) {
            String what = "flows " + v[0] + " " + v[1] + " " + v[2] + " " + v[3];
            d.refused(what, Due.made(some), Due.made(some), BAD, x -> x.flows(v[0], v[1], v[2], v[3]));
        }
        d.due("no EDGES", new MatchedFlows().flows(0, 0, 0, 1), BAD);
    }

    private static void startsWas(Due d) {
        MatchedFlows x = Due.made("e0 1");
        d.due("at first", x.starts(129), 1);
        d.due("it became that", x.count(3), 129);
        d.due("and holds", x.holds(1), 129);
        d.due("was", x.starts(255), 129);
        d.due("was all", x.starts(1), 255);
        d.due("holds no more", x.holds(1), 1);
    }

    private static void startsBad(Due d) {
        for (int v : new int[] {0, 2, 254, 256, 257, 511, -1, LEAST, LEAST + 1, MOST}) {
            d.refused("starts " + v, Due.made("s5;e0 1"), Due.made("s5;e0 1"), BAD, x -> x.starts(v));
        }
    }

    private static void cutsLeft(Due d) {
        MatchedFlows x = Due.made("p;n0;e0 4;c4 1 1;e4 1;f1 0 1 8;f1 1 2 16;f1 2 3 32;f2 0 1 4");
        d.due("two left", x.cuts(0), 2);
        int[][] about = {{4, 1, 1}, {4, 1, NONE}};
        for (int e = 0; e < 2; e++) {
            for (int what = 0; what < 3; what++) d.due("about " + e, x.about(e, what), about[e][what]);
        }
        for (int w = 0; w < 3; w++) d.due("the FLOWS of the CALL", x.goes(0, w, 1 + w), 8 << w);
        d.due("the FLOW of the last", x.goes(1, 0, 1), 4);
        d.due("no way to 4", x.holds(4), 0);
        d.due("the last goes", x.cuts(1), 1);
        d.due("the CALL stays", x.about(0, 2), 1);
        d.due("no EDGE 1", x.about(1, 0), BAD);
        d.due("none left", x.cuts(0), 0);
        d.due("none", x.count(2), 0);
        MatchedFlows full = Due.made("e0 1;".repeat(31) + "c0 0 1;f31 2 7 6");
        d.due("31 left", full.cuts(0), 31);
        d.due("the last is 30", full.goes(30, 2, 7), 6);
    }

    private static void cutsBad(Due d) {
        for (int e : new int[] {2, -1, 32, LEAST, MOST}) {
            d.refused("cuts " + e, Due.made("e0 1;c0 0 1"), Due.made("e0 1;c0 0 1"), BAD, x -> x.cuts(e));
        }
        d.refused("no EDGES", new MatchedFlows(), new MatchedFlows(), BAD, x -> x.cuts(0));
        d.due("the last one", Due.made("e0 1;c0 0 1").cuts(1), 1);
    }

    private static void atTold(Due d) {
        MatchedFlows x = Due.made("n0;p;n1;n0");
        int[][] at = {{0, 0}, {0, 1}, {0, 2}, {1, 0}, {1, 1}, {1, 2}, {0, 2}};
        for (int n = 0; n < 7; n++) for (int what = 0; what < 2; what++) d.due("at " + n, x.at(n, what), at[n][what]);
    }

    private static void atBad(Due d) {
        int[][] bad = {{3, 0}, {-1, 0}, {24, 1}, {LEAST, 0}, {MOST, 1}, {0, 2}, {0, -1}, {0, LEAST}, {0, MOST}};
        for (int[] v : bad) {
            d.refused("at " + v[0] + " " + v[1], Due.made("n0"), Due.made("n0"), BAD, x -> x.at(v[0], v[1]));
        }
    }

    private static void aboutTold(Due d) {
        MatchedFlows x = Due.made("p;n0;e0 4;c4 1 1;c4 0 4;c2 1 3");
        int[][] about = {{0, 4, NONE}, {4, 1, 1}, {4, 4, 0}, {2, 3, 1}};
        for (int e = 0; e < 4; e++) {
            for (int what = 0; what < 3; what++) d.due("about " + e, x.about(e, what), about[e][what]);
        }
        d.due("NONE is not refused", x.told(0) + x.told(1) + x.told(2), 0);
    }

    private static void aboutBad(Due d) {
        int[][] bad = {{1, 0}, {-1, 0}, {32, 0}, {LEAST, 0}, {MOST, 0}, {0, 3}, {0, -1}, {0, LEAST}, {0, MOST}};
        for (int[] v : bad) {
            d.refused("about " + v[0] + " " + v[1], Due.made("e0 1"), Due.made("e0 1"), BAD, x -> x.about(v[0], v[1]));
        }
        d.due("no EDGES", new MatchedFlows().about(0, 0), BAD);
    }

    private static void goesTold(Due d) {
        MatchedFlows x = Due.made("e0 1;c0 0 1;f1 0 7 128;f1 1 7 254;f1 2 7 0;f1 0 0 255;f0 0 6 2");
        d.due("BESIDE", x.goes(1, 0, 7), 128);
        d.due("IN", x.goes(1, 1, 7), 254);
        d.due("OUT", x.goes(1, 2, 7), 0);
        d.due("FACT 0", x.goes(1, 0, 0), 255);
        d.due("the PLAIN one", x.goes(0, 0, 6), 2);
        d.due("beside it", x.goes(0, 0, 7), 128);
        d.due("beside it", x.goes(0, 0, 5), 32);
    }

    private static void goesBad(Due d) {
        int[][] bad = {{2, 0, 0}, {-1, 0, 0}, {LEAST, 0, 0}, {MOST, 0, 0}, {0, 1, 0}, {0, 2, 0}, {0, -1, 0}, {1, 3, 0},
            {1, -1, 0}, {1, LEAST, 0}, {1, MOST, 0}, {1, 0, 8}, {1, 0, -1}, {1, 0, LEAST}, {1, 0, MOST}};
        for (int[] v : bad) {
            String what = "goes " + v[0] + " " + v[1] + " " + v[2];
            d.refused(what, Due.made("e0 1;c0 0 1"), Due.made("e0 1;c0 0 1"), BAD, x -> x.goes(v[0], v[1], v[2]));
        }
        d.due("no EDGES", new MatchedFlows().goes(0, 0, 0), BAD);
    }

    private static void counted(Due d) {
        MatchedFlows x = Due.made("p;p;n0;e0 6;e6 1;e2 3;e4 5;s129");
        int[] want = {3, 7, 4, 129};
        for (int what = 0; what < 4; what++) d.due("count " + what, x.count(what), want[what]);
        MatchedFlows full = Due.made("p;p;p;p;" + "n4;".repeat(14) + "e0 1;".repeat(32) + "s255");
        int[] most = {5, 24, 32, 255};
        for (int what = 0; what < 4; what++) d.due("the most, count " + what, full.count(what), most[what]);
    }

    private static void countedOfTable(Due d) {
        MatchedFlows x = new MatchedFlows();
        d.due("one ENTRY", x.count(4), 1);
        d.due("one NODE", x.count(5), 1);
        Due.more(x, "s255");
        d.due("eight ENTRIES", x.count(4), 8);
        d.due("still one NODE", x.count(5), 1);
        Due.more(x, "p;n0;e0 4;f0 0 0 3;c4 1 1");
        d.due("ENTRIES: 8 at 0, 9 at 4, 8 at 2, 9 at 1", x.count(4), 34);
        d.due("all but PROC 1's EXIT", x.count(5), 4);
        Due.more(x, "x0");
        d.due("the ENTRY alone", x.count(5), 1);
        MatchedFlows all = Due.made("n0;".repeat(22) + Due.rows("e0 #;", 1, 23));
        d.due("all 24", all.count(5), 24);
        d.due("24 ENTRIES", all.count(4), 24);
    }

    private static void countBad(Due d) {
        for (int what : new int[] {6, -1, LEAST, MOST}) {
            d.refused("count " + what, Due.made("n0"), Due.made("n0"), BAD, x -> x.count(what));
        }
    }
}
