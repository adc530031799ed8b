/** Each promise of the document: ordinary inputs, the edges that it names, wrong inputs. */
public final class PromisesTest {
    private static final int NONE = MatchedFlows.NONE, BAD = MatchedFlows.BAD;
    private static final int NO = MatchedFlows.NO, FULL = MatchedFlows.FULL;
    private static int wrong = 0;
    private static int promise = 0;

    private static void due(String what, long got, long want) {
        if (got != want) {
            wrong++;
            System.out.println("promise " + promise + ": " + what + " answered " + got + ", due is " + want);
        }
    }

    public static void main(String[] args) {
        newObject();
        proc();
        node();
        edge();
        call();
        flows();
        starts();
        cuts();
        at();
        about();
        goes();
        count();
        holds();
        loose();
        origins();
        summary();
        entryOrder();
        entryOfRecursion();
        witness();
        type();
        clear();
        does();
        faults();
        back();
        told();
        digest();
        System.out.println(wrong == 0 ? "all promises hold" : wrong + " answers are not as due");
        if (wrong != 0) System.exit(1);
    }

    private static void types(MatchedFlows x, String s) {
        x.clear();
        for (int i = 0; i < s.length(); i++) due("type in " + s, x.type(s.charAt(i)), i + 1);
    }

    private static int doesText(MatchedFlows x, String s) {
        types(x, s);
        return x.does();
    }

    private static void newObject() {
        promise = 1;
        MatchedFlows x = new MatchedFlows();
        int[] counts = {1, 2, 0, 1, 1, 1};
        for (int i = 0; i < 6; i++) due("count " + i, x.count(i), counts[i]);
        for (int i = 0; i < 5; i++) due("told " + i, x.told(i), 0);
        due("back", x.back(), NO);
        due("at 0", x.at(0, 1), 0);
        due("at 1", x.at(1, 1), 1);
        due("NONE", NONE, -1);
        due("BAD", BAD, -2);
        due("NO", NO, -3);
        due("FULL", FULL, -4);
    }

    private static void proc() {
        promise = 2;
        MatchedFlows x = new MatchedFlows();
        for (int p = 1; p <= 4; p++) {
            due("proc", x.proc(), p);
            due("its ENTRY", x.at(2 * p, 0) * 10 + x.at(2 * p, 1), 10 * p);
            due("its EXIT", x.at(2 * p + 1, 0) * 10 + x.at(2 * p + 1, 1), 10 * p + 1);
        }
        due("a sixth", x.proc(), FULL);
        due("states", x.told(4), 4);
        MatchedFlows y = new MatchedFlows();
        for (int n = 2; n < 22; n++) due("node", y.node(0), n);
        due("NODES 22 and 23", y.proc(), 1);
        due("no room", y.proc(), FULL);
        due("back", y.back(), 4);
        due("one NODE more", y.node(0), 22);
        due("room for one alone", y.proc(), FULL);
        due("still 23", y.count(1), 23);
        due("FULL twice", y.told(2), 2);
    }

    private static void node() {
        promise = 3;
        MatchedFlows x = new MatchedFlows();
        x.proc();
        due("of PROC 1", x.node(1), 4);
        due("its PROC", x.at(4, 0), 1);
        due("another one", x.at(4, 1), 2);
        due("no PROC", x.node(2), BAD);
        due("below", x.node(-1), BAD);
        for (int n = 5; n < 24; n++) due("node", x.node(n % 2), n);
        due("a 25th", x.node(0), FULL);
        due("BAD ahead of FULL", x.node(5), BAD);
        due("count", x.count(1), 24);
        due("counted", x.told(0) * 10 + x.told(2), 31);
    }

    private static void edge() {
        promise = 4;
        MatchedFlows x = new MatchedFlows();
        x.proc();
        x.node(0);
        due("first", x.edge(0, 1), 0);
        due("to itself", x.edge(4, 4), 1);
        due("plain at first", x.goes(1, 0, 5), 32);
        int[][] bad = {{0, 3}, {0, 2}, {1, 4}, {4, 0}, {0, 0}, {1, 1}, {-1, 1}, {0, -1}, {5, 1}, {0, 5},
            {Integer.MIN_VALUE, 1}, {0, Integer.MAX_VALUE}};
        for (int[] b : bad) due("edge " + b[0] + " " + b[1], x.edge(b[0], b[1]), BAD);
        for (int e = 2; e < 32; e++) due("edge", x.edge(0, 4), e);
        due("a 33rd", x.edge(0, 4), FULL);
        due("a 33rd call", x.call(0, 1, 4), FULL);
        due("BAD ahead of FULL", x.edge(1, 4), BAD);
        due("count", x.count(2), 32);
    }

    private static void call() {
        promise = 5;
        MatchedFlows x = new MatchedFlows();
        x.proc();
        x.node(0);
        due("first", x.call(0, 1, 4), 0);
        due("of its own PROC", x.call(4, 0, 1), 1);
        due("back to its own n", x.call(4, 1, 4), 2);
        int[][] bad = {{0, 2, 4}, {0, -1, 4}, {1, 1, 4}, {4, 1, 0}, {0, 1, 3}, {5, 1, 4}, {0, 1, 5}, {-1, 1, 4}, {0, 1, -1}};
        for (int[] b : bad) due("call " + b[0] + " " + b[1] + " " + b[2], x.call(b[0], b[1], b[2]), BAD);
        for (int w = 0; w < 3; w++) for (int a = 0; a < 8; a++) due("plain", x.goes(0, w, a), 1 << a);
        while (x.count(2) < 32) x.call(0, 1, 4);
        due("a 33rd", x.call(0, 1, 4), FULL);
        due("BAD ahead of FULL", x.call(0, 9, 4), BAD);
    }

    private static void flows() {
        promise = 6;
        MatchedFlows x = new MatchedFlows();
        x.proc();
        x.node(0);
        x.edge(0, 1);
        x.call(0, 1, 4);
        due("plain", x.flows(0, 0, 3, 254), 8);
        due("was", x.flows(0, 0, 3, 0), 254);
        due("of 0", x.flows(0, 0, 0, 255), 1);
        due("of 7", x.flows(1, 2, 7, 2), 128);
        due("beside stays", x.goes(1, 0, 7), 128);
        due("in stays", x.goes(1, 1, 7), 128);
        due("others stay", x.goes(1, 2, 6), 64);
        due("became", x.goes(1, 2, 7), 2);
        due("the other edge stays", x.goes(0, 0, 7), 128);
        int[][] bad = {{2, 0, 1, 2}, {-1, 0, 1, 2}, {0, 1, 1, 2}, {0, -1, 1, 2}, {1, 3, 1, 2}, {1, -1, 1, 2}, {1, 0, 8, 2},
            {1, 0, -1, 2}, {1, 0, 1, 256}, {1, 0, 1, -2}, {1, 0, 0, 257}, {1, 0, 0, 2}, {1, 0, 0, 0}, {1, 0, 1, 3}, {1, 0, 7, 255}};
        for (int[] b : bad) due("flows " + b[0] + " " + b[1] + " " + b[2] + " " + b[3], x.flows(b[0], b[1], b[2], b[3]), BAD);
        due("counted", x.told(0), bad.length);
        due("states", x.told(4), 5);
    }

    private static void starts() {
        promise = 7;
        MatchedFlows x = new MatchedFlows();
        due("was", x.starts(255), 1);
        due("was", x.starts(3), 255);
        due("same", x.starts(3), 3);
        int[] bad = {0, 2, 254, 256, 257, -1, Integer.MIN_VALUE};
        for (int v : bad) due("starts " + v, x.starts(v), BAD);
        due("stays", x.count(3), 3);
        due("states, also of the one that changed nothing", x.told(4), 3);
    }

    private static void cuts() {
        promise = 8;
        MatchedFlows x = new MatchedFlows();
        x.proc();
        x.node(0);
        due("none", x.cuts(0), BAD);
        x.edge(0, 4);
        x.call(4, 1, 1);
        x.edge(4, 1);
        x.flows(1, 2, 3, 16);
        x.flows(2, 0, 1, 4);
        due("behind", x.cuts(3), BAD);
        due("below", x.cuts(-1), BAD);
        due("first", x.cuts(0), 2);
        due("the CALL is 0", x.about(0, 2), 1);
        due("its n", x.about(0, 0), 4);
        due("its m", x.about(0, 1), 1);
        due("its OUT", x.goes(0, 2, 3), 16);
        due("the PLAIN one is 1", x.about(1, 2), NONE);
        due("its FLOW", x.goes(1, 0, 1), 4);
        due("last", x.cuts(1), 1);
        due("gone", x.about(1, 0), BAD);
        due("a new one is plain", x.edge(0, 1), 1);
        due("a new one is plain", x.goes(1, 0, 1), 2);
        due("cuts", x.cuts(0), 1);
        due("cuts", x.cuts(0), 0);
    }

    private static void at() {
        promise = 9;
        MatchedFlows x = new MatchedFlows();
        x.node(0);
        x.proc();
        x.node(1);
        int[] procs = {0, 0, 0, 1, 1, 1};
        int[] kinds = {0, 1, 2, 0, 1, 2};
        for (int n = 0; n < 6; n++) {
            due("PROC of " + n, x.at(n, 0), procs[n]);
            due("kind of " + n, x.at(n, 1), kinds[n]);
        }
        due("no NODE", x.at(6, 0), BAD);
        due("below", x.at(-1, 0), BAD);
        due("what", x.at(0, 2), BAD);
        due("what", x.at(0, -1), BAD);
        due("told", x.told(0), 4);
    }

    private static void about() {
        promise = 10;
        MatchedFlows x = new MatchedFlows();
        x.node(0);
        x.edge(0, 2);
        x.call(2, 0, 1);
        int[][] want = {{0, 2, NONE}, {2, 1, 0}};
        for (int e = 0; e < 2; e++) for (int w = 0; w < 3; w++) due("about " + e + " " + w, x.about(e, w), want[e][w]);
        due("no EDGE", x.about(2, 0), BAD);
        due("below", x.about(-1, 0), BAD);
        due("what", x.about(0, 3), BAD);
        due("what", x.about(0, -1), BAD);
    }

    private static void goes() {
        promise = 11;
        MatchedFlows x = new MatchedFlows();
        x.edge(0, 1);
        x.call(0, 0, 1);
        x.flows(1, 0, 1, 4);
        x.flows(1, 1, 1, 8);
        x.flows(1, 2, 1, 16);
        for (int w = 0; w < 3; w++) due("goes", x.goes(1, w, 1), 4 << w);
        due("plain", x.goes(0, 0, 7), 128);
        int[][] bad = {{2, 0, 0}, {-1, 0, 0}, {0, 1, 0}, {0, 2, 0}, {0, -1, 0}, {1, 3, 0}, {1, -1, 0}, {1, 0, 8}, {1, 0, -1}};
        for (int[] b : bad) due("goes " + b[0] + " " + b[1] + " " + b[2], x.goes(b[0], b[1], b[2]), BAD);
    }

    private static void count() {
        promise = 12;
        MatchedFlows x = new MatchedFlows();
        x.proc();
        x.node(0);
        x.node(0);
        x.edge(0, 4);
        x.edge(4, 1);
        x.starts(5);
        int[] want = {2, 6, 2, 5, 6, 3};
        for (int i = 0; i < 6; i++) due("count " + i, x.count(i), want[i]);
        due("what", x.count(6), BAD);
        due("what", x.count(-1), BAD);
        x.call(5, 1, 1);
        due("not reached", x.count(5), 3);
        x.edge(4, 5);
        due("5 and 2 are reached, 3 is not", x.count(5), 5);
    }

    /** PROC 0 calls PROC 1 at two places; what went in at one must not come out at the other. */
    private static MatchedFlows twoCalls() {
        MatchedFlows x = new MatchedFlows();
        x.proc();
        x.node(0);
        x.node(0);
        x.edge(2, 3);
        x.call(0, 1, 4);
        x.call(0, 1, 5);
        for (int e = 1; e <= 2; e++) for (int a = 1; a < 8; a++) x.flows(e, 0, a, 0);
        x.starts(7);
        x.flows(1, 1, 2, 0);
        x.flows(2, 1, 1, 0);
        return x;
    }

    private static void holds() {
        promise = 13;
        MatchedFlows x = twoCalls();
        due("at 4", x.holds(4), 3);
        due("at 5", x.holds(5), 5);
        due("in PROC 1", x.holds(2), 7);
        due("at its EXIT", x.holds(3), 7);
        due("nothing at EXIT 0", x.holds(1), 0);
        due("no NODE", x.holds(6), BAD);
        due("below", x.holds(-1), BAD);
        x.cuts(0);
        due("BESIDE alone", x.holds(4), 1);
        x.back();
        due("again", x.holds(4), 3);
        // A call of PROC 2, which has no way through, by the same FACTS.
        x.proc();
        x.node(0);
        x.call(0, 2, 8);
        x.flows(3, 0, 1, 0);
        due("no return from PROC 1 to it", x.holds(8), 5);
        due("but into PROC 2", x.holds(6), 7);
        x.flows(3, 1, 0, 255);
        x.edge(6, 7);
        due("all FACTS through it", x.holds(8), 255);
        due("and they stay there", x.holds(4), 3);
    }

    private static void loose() {
        promise = 14;
        MatchedFlows x = twoCalls();
        due("at 4", x.loose(4), 7);
        due("at 5", x.loose(5), 7);
        due("at 3", x.loose(3), 7);
        due("at 1", x.loose(1), 0);
        due("no NODE", x.loose(6), BAD);
        due("below", x.loose(-1), BAD);
        // A return to a CALL that no path comes by.
        x.node(0);
        x.node(0);
        x.call(6, 1, 7);
        due("loose", x.loose(7), 7);
        due("holds", x.holds(7), 0);
        due("n itself", x.loose(6), 0);
    }

    private static void origins() {
        promise = 15;
        MatchedFlows x = twoCalls();
        due("1 at 4", x.origins(4, 1), 2);
        due("2 at 4", x.origins(4, 2), 0);
        due("3 at 4, though not in START", x.origins(4, 3), 8);
        due("0 at 4", x.origins(4, 0), 1);
        due("at ENTRY", x.origins(0, 6), 64);
        x.flows(1, 1, 0, 3);
        due("of 0, too", x.origins(4, 1), 3);
        due("0 comes of 0 alone", x.origins(3, 0), 1);
        due("no NODE", x.origins(6, 0), BAD);
        due("below", x.origins(-1, 0), BAD);
        due("no FACT", x.origins(0, 8), BAD);
        due("no FACT", x.origins(0, -1), BAD);
        due("START stays", x.count(3), 7);
    }

    private static void summary() {
        promise = 16;
        MatchedFlows x = twoCalls();
        due("1 through 1", x.summary(1, 1), 2);
        due("2 does not go in", x.summary(1, 2), 0);
        due("3, though it holds nowhere", x.summary(2, 3), 8);
        due("0", x.summary(2, 0), 1);
        x.flows(1, 0, 1, 128);
        due("BESIDE does not count", x.summary(1, 1), 2);
        x.flows(1, 2, 1, 48);
        due("OUT", x.summary(1, 1), 48);
        due("PLAIN", x.summary(0, 0), NO);
        due("BAD ahead of NO", x.summary(0, 8), BAD);
        due("no FACT", x.summary(1, -1), BAD);
        due("no EDGE", x.summary(3, 0), BAD);
        due("below", x.summary(-1, 0), BAD);
        due("NO counted", x.told(1), 1);
        // Of the calls within, other FACTS at the ENTRY come to THE TABLE; what they bring out does not count.
        MatchedFlows y = new MatchedFlows();
        y.node(0);
        y.call(0, 0, 2);
        y.edge(2, 1);
        y.edge(0, 1);
        y.flows(0, 1, 1, 4);
        y.flows(0, 1, 2, 8);
        for (int a = 1; a < 8; a++) y.flows(0, 0, a, 0);
        due("(0, 2) has 2 and 3 at its EXIT", y.summary(0, 1), 12);
        due("(0, 3) has 3 alone", y.summary(0, 2), 8);
        // (0, 3) has 5 at its EXIT, which goes by OUT to 6; but 6 does not come to the EXIT of (0, 2).
        y.flows(2, 0, 3, 32);
        y.flows(0, 2, 5, 64);
        y.flows(1, 0, 6, 0);
        due("(0, 2) has 2 alone", y.summary(0, 1), 4);
        due("(0, 3) has 5", y.summary(0, 2), 64);
        due("both go in", y.flows(0, 1, 1, 12), 4);
        due("both", y.summary(0, 1), 68);
    }

    private static void entries(MatchedFlows x, int[][] want) {
        due("how many", x.count(4), want.length);
        for (int i = 0; i < want.length; i++) {
            for (int w = 0; w < 4; w++) due("entry " + i + " " + w, x.entry(i, w), want[i][w]);
        }
        due("behind", x.entry(want.length, 0), NONE);
        due("far behind", x.entry(Integer.MAX_VALUE, 3), NONE);
    }

    private static void entryOrder() {
        promise = 17;
        MatchedFlows x = new MatchedFlows();
        x.proc();
        x.node(0);
        x.edge(2, 3);
        x.call(0, 1, 4);
        x.edge(0, 4);
        x.edge(4, 1);
        x.starts(3);
        x.flows(1, 1, 1, 6);
        x.flows(1, 0, 1, 24);
        x.flows(2, 0, 1, 32);
        entries(x, new int[][] {{0, 0, 0, 0}, {0, 1, 0, 1}, {1, 0, 2, 0}, {0, 0, 4, 0}, {1, 1, 2, 1}, {1, 2, 2, 2},
            {0, 1, 4, 3}, {0, 1, 4, 4}, {0, 1, 4, 5}, {1, 0, 3, 0}, {0, 0, 1, 0}, {1, 1, 3, 1}, {1, 2, 3, 2},
            {0, 1, 1, 3}, {0, 1, 1, 4}, {0, 1, 1, 5}, {0, 1, 4, 1}, {0, 1, 4, 2}, {0, 1, 1, 1}, {0, 1, 1, 2}});
        due("i below 0", x.entry(-1, 0), BAD);
        due("what", x.entry(0, 4), BAD);
        due("what", x.entry(0, -1), BAD);
        due("BAD ahead of NONE", x.entry(999, 4), BAD);
    }

    /** A PROC that calls itself and goes back to its own EXIT: what comes there is seen by the greater FACTS at once. */
    private static void entryOfRecursion() {
        promise = 17;
        MatchedFlows x = new MatchedFlows();
        x.node(0);
        x.edge(0, 1);
        x.edge(0, 2);
        x.call(2, 0, 1);
        x.starts(3);
        x.edge(2, 1);
        x.flows(2, 2, 1, 4);
        x.flows(2, 2, 2, 24);
        x.flows(2, 2, 4, 4);
        for (int a = 1; a < 8; a++) x.flows(2, 0, a, 0);
        x.flows(3, 0, 1, 32);
        entries(x, new int[][] {{0, 0, 0, 0}, {0, 1, 0, 1}, {0, 0, 1, 0}, {0, 0, 2, 0}, {0, 1, 1, 1}, {0, 1, 2, 1},
            {0, 1, 1, 2}, {0, 1, 1, 3}, {0, 1, 1, 4}, {0, 1, 1, 5}});
        pairs(x, 1, 2, new int[] {1, 21, 1, 11, 12});
        pairs(x, 1, 3, new int[] {1, 21, 1, 21, 1, 11, 12, 13});
        pairs(x, 1, 5, new int[] {1, 21, 15});
    }

    private static void pairs(MatchedFlows x, int n, int f, int[] want) {
        due("how many of " + f, x.witness(n, f, NONE), want.length);
        for (int i = 0; i < want.length; i++) due("pair " + i + " of " + f, x.witness(n, f, i), want[i]);
        due("behind", x.witness(n, f, want.length), NONE);
    }

    private static void witness() {
        promise = 18;
        MatchedFlows x = twoCalls();
        pairs(x, 5, 2, new int[] {2, 22, 32, 52});
        due("far behind", x.witness(5, 2, Integer.MAX_VALUE), NONE);
        due("does not hold", x.witness(5, 1, NONE), NONE);
        due("does not hold", x.witness(5, 1, 0), NONE);
        due("of START", x.witness(0, 2, NONE), 1);
        due("of START", x.witness(0, 2, 0), 2);
        due("by a CALL", x.witness(2, 1, NONE), 2);
        due("by BESIDE", x.witness(5, 0, NONE), 2);
        due("by BESIDE", x.witness(5, 0, 1), 50);
        // FACT 3 at NODE 2 comes first of FACT 1, and of FACT 0 by a longer way.
        MatchedFlows y = new MatchedFlows();
        y.node(0);
        y.node(0);
        y.edge(0, 2);
        y.edge(0, 3);
        y.edge(3, 2);
        y.starts(3);
        y.flows(0, 0, 1, 8);
        y.flows(2, 0, 0, 9);
        due("both come", y.origins(2, 3), 11);
        pairs(y, 2, 3, new int[] {1, 23});
        due("no NODE", x.witness(6, 0, 0), BAD);
        due("below", x.witness(-1, 0, 0), BAD);
        due("no FACT", x.witness(0, 8, 0), BAD);
        due("no FACT", x.witness(0, -1, 0), BAD);
        due("i below -1", x.witness(0, 0, -2), BAD);
        due("BAD ahead of NONE", x.witness(5, 1, -2), BAD);
    }

    private static void type() {
        promise = 19;
        MatchedFlows x = new MatchedFlows();
        due("0", x.type(0), 1);
        due("127", x.type(127), 2);
        due("128", x.type(128), BAD);
        due("-1", x.type(-1), BAD);
        for (int i = 3; i <= 120; i++) due("type", x.type(32), i);
        due("a 121st", x.type(32), FULL);
        due("BAD ahead of FULL", x.type(128), BAD);
        due("length", x.told(3), 120);
        due("no S", x.told(4), 0);
    }

    private static void clear() {
        promise = 20;
        MatchedFlows x = new MatchedFlows();
        due("empty", x.clear(), 0);
        types(x, "p;p;");
        due("had", x.clear(), 4);
        due("empty", x.told(3), 0);
        due("type", x.type(112), 1);
        due("no S", x.told(4), 0);
    }

    private static void does() {
        promise = 21;
        MatchedFlows x = new MatchedFlows();
        due("all kinds", doesText(x, "p;n 0;c0 1 4;e 4 1;e2 3;f0 1 0 3;s 5;e 0 1;x 5;"), -1008);
        due("nothing done", x.count(1), 2);
        due("no S", x.told(4), 0);
        due("all kinds", doesText(x, "p;n 0;c0 1 4;e 4 1;e2 3;f0 1 0 3;s 5;e 0 1;x 3;"), 9);
        due("one S", x.told(4), 1);
        due("the TEXT stays", x.told(3), 47);
        due("edges", x.count(2), 3);
        due("holds", x.holds(1), 7);
        due("nothing counts", x.told(0), 0);
        due("back", x.back(), 0);
        due("all is back but the TEXT", x.count(1) * 1000 + x.told(3), 2047);
        due("again", x.does(), 9);
        due("blanks", doesText(x, "   s   007  ;   "), 1);
        due("START", x.count(3), 7);
        due("sixty", doesText(x, "s1;".repeat(40)), 40);
        due("FULL ends, too", doesText(x, "p;p;p;p;p;"), -1003);
        due("FULL does not count", x.told(2), 0);
        due("PROCS", x.count(0), 2);
        due("first", doesText(x, "s2;p;"), -1000);
        due("second", doesText(x, "p;s256;"), -1001);
        due("PROCS", x.count(0), 2);
        due("three figures", doesText(x, "n999;"), -1000);
        due("of what an ORDER ahead has made", doesText(x, "p;n2;e5 7;x3;"), 4);
        due("states", x.told(4), 4);
        due("orders of refused kinds are not counted", x.told(0) + x.told(1) + x.told(2), 0);
    }

    private static void fault(String s, int place) {
        MatchedFlows x = new MatchedFlows();
        due("does '" + s + "'", doesText(x, s), -10 - place);
        due("no S", x.told(4), 0);
        due("not refused", x.told(0) + x.told(1) + x.told(2), 0);
        due("nothing done", x.count(1) * 100 + x.count(2) * 10 + x.count(3), 201);
    }

    private static void faults() {
        promise = 21;
        fault("", 0);
        fault("   ", 3);
        fault("q;", 0);
        fault("P;", 0);
        fault(" ;", 1);
        fault("p", 1);
        fault("p ", 2);
        fault("p1;", 1);
        fault("p;;", 2);
        fault("p;n0;n", 6);
        fault("p;n0;n0", 7);
        fault("n;", 1);
        fault("n ;", 2);
        fault("n0 1;", 3);
        fault("n0 ", 3);
        fault("n0001;", 4);
        fault("n1234", 4);
        fault("e1231;", 4);
        fault("e0001 1;", 4);
        fault("s-1;", 1);
        fault("s+1;", 1);
        fault("e01;", 3);
        fault("e0 ;", 3);
        fault("e 0 0001;", 7);
        fault("e0,1;", 2);
        fault("e0\t1;", 2);
        fault("c0 1 ;", 5);
        fault("c0 1 2 3;", 7);
        fault("f0 0 0;", 6);
        fault("f0 0 0 1 ", 9);
        fault("f0 0 0 1 1;", 9);
        fault("f0 0 0 1000;", 10);
        fault("x0x0;", 2);
        fault("p;s9;q", 5);
        fault("s2;p", 4);
        fault("p;".repeat(59) + " p", 120);
        MatchedFlows x = new MatchedFlows();
        due("sixty ORDERS", doesText(x, "p;".repeat(60)), -1004);
    }

    private static void back() {
        promise = 22;
        MatchedFlows x = new MatchedFlows();
        for (int v = 1; v <= 13; v += 2) x.starts(v);
        due("five at most", x.told(4), 5);
        x.starts(2);
        due("a refused one leaves none", x.told(4), 5);
        x.type(65);
        for (int i = 4; i >= 0; i--) {
            due("back", x.back(), i);
            due("START", x.count(3), 3 + 2 * i);
        }
        due("none", x.back(), NO);
        due("START", x.count(3), 3);
        due("not the TEXT", x.told(3), 1);
        due("nor how often", x.told(0) * 10 + x.told(1), 11);
        x.starts(255);
        due("anew", x.told(4), 1);
        MatchedFlows y = new MatchedFlows();
        y.node(0);
        y.edge(0, 2);
        y.flows(0, 0, 1, 4);
        y.cuts(0);
        y.proc();
        y.back();
        due("the cut stands", y.count(2) * 10 + y.count(0), 1);
        y.back();
        due("the EDGE is there again", y.goes(0, 0, 1), 4);
        y.back();
        due("plain again", y.goes(0, 0, 1), 2);
        y.edge(2, 1);
        due("another way", y.told(4), 3);
        due("a new EDGE", y.about(1, 0), 2);
        due("a failed does leaves the oldest", doesText(y, "p;p;s2;"), -1002);
        for (int i = 2; i >= 0; i--) due("back", y.back(), i);
        due("at first", y.count(1) * 10 + y.count(2), 20);
    }

    private static void told() {
        promise = 23;
        MatchedFlows x = new MatchedFlows();
        x.told(5);
        x.told(-1);
        x.holds(9);
        x.back();
        x.edge(0, 1);
        x.summary(0, 0);
        for (int i = 0; i < 5; i++) x.proc();
        x.type(1);
        int[] want = {3, 2, 1, 1, 5};
        for (int i = 0; i < 5; i++) due("told " + i, x.told(i), want[i]);
        due("what", x.told(5), BAD);
        due("NONE is not refused", x.entry(500, 0), NONE);
        due("counted", x.told(0), 4);
    }

    private static long hash(int... values) {
        long h = 1807;
        for (int v : values) h = 31 * h + v;
        return h;
    }

    private static void digest() {
        promise = 24;
        MatchedFlows x = new MatchedFlows();
        due("new", x.digest(), hash(0, 0, 0, 0, 0, 1, 2, 0, 1, 1, 1, 0, 0, 1, 1, 0, 1, 0, 0));
        due("twice", x.digest(), hash(0, 0, 0, 0, 0, 1, 2, 0, 1, 1, 1, 0, 0, 1, 1, 0, 1, 0, 0));
        x.edge(0, 1);
        x.call(0, 0, 1);
        x.flows(1, 1, 0, 3);
        x.flows(1, 2, 7, 6);
        x.type(65);
        x.edge(1, 1);
        due("more", x.digest(), hash(1, 0, 0, 1, 4, 1, 2, 2, 1, 5, 2,
            0, 0, 3, 3, 0, 1, 3, 3,
            0, 1, -1, 1, 2, 4, 8, 16, 32, 64, 128,
            0, 1, 0, 1, 2, 4, 8, 16, 32, 64, 128, 3, 2, 4, 8, 16, 32, 64, 128, 1, 2, 4, 8, 16, 32, 64, 6));
    }
}
