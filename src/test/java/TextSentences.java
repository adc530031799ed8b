import java.util.List;
import java.util.function.ToIntFunction;

/** THE TEXT, the STATES and what is refused: their part of "Terms", and promises 19 to 24. */
final class TextSentences {
    private static final int NONE = Due.NONE, BAD = Due.BAD, NO = Due.NO, FULL = Due.FULL;
    private static final int LEAST = Integer.MIN_VALUE, MOST = Integer.MAX_VALUE;

    private TextSentences() { }

    static List<Sentence> all() {
        return List.of(
            new Sentence("Terms", "THE TEXT (120 bytes at most)", TextSentences::bytes120),
            new Sentence("Terms", "tells ORDERS, each ended by ;", TextSentences::ended),
            new Sentence("Terms", "p (as proc)", TextSentences::asProc),
            new Sentence("Terms", "n p (as node)", TextSentences::asNode),
            new Sentence("Terms", "e n m (as edge)", TextSentences::asEdge),
            new Sentence("Terms", "c n q m (as call)", TextSentences::asCall),
            new Sentence("Terms", "f e w a v (as flows)", TextSentences::asFlows),
            new Sentence("Terms", "s v (as starts)", TextSentences::asStarts),
            new Sentence("Terms", "x e (as cuts)", TextSentences::asCuts),
            new Sentence("Terms", "Numbers have 1 to 3 figures", TextSentences::figures),
            new Sentence("Terms", "blanks (32) may stand anywhere", TextSentences::blanks),
            new Sentence("Terms", "but within a number", TextSentences::blankWithin),
            new Sentence("Terms", "needed only where figures of two numbers would else stand side by side",
                TextSentences::blankNeeded),
            new Sentence("Terms", "THE TEXT is read whole first", TextSentences::readWholeFirst),
            new Sentence("Terms", "an ORDER that its call would refuse then ends all, nothing is done", TextSentences::endsAll),
            new Sentence("Terms", "FAULT: the place of the first byte that can not stand there", TextSentences::faultPlace),
            new Sentence("Terms", "a fourth figure", TextSentences::fourthFigure),
            new Sentence("Terms", "the TEXT's length, if it ends too early", TextSentences::endsTooEarly),
            new Sentence("Terms", "one that is empty or has blanks alone, too", TextSentences::emptyText),
            new Sentence("Terms", "If there is one, nothing is done.", TextSentences::faultDoesNothing),
            new Sentence("Terms", "each call told S, if it is not refused, leaves one", TextSentences::leavesOne),
            new Sentence("Terms", "also if nothing becomes other by it", TextSentences::leavesOneOfTheSame),
            new Sentence("Terms", "to go back to (all but THE TEXT and how often refused)", TextSentences::goesBackTo),
            new Sentence("Terms", "5 at most, older ones lost", TextSentences::fiveStates),
            new Sentence("Terms", "Refused (any call, getters, too), changing nothing but how often", TextSentences::anyRefused),
            new Sentence("Terms", "the first of: BAD -2 a number is not as told; NO -3, FULL -4 as told", TextSentences::firstOf),
            new Sentence("Terms", "By THE TEXT nothing counts.", TextSentences::textCountsNothing),
            new Sentence("Promise 19", "A byte (0 .. 127) comes behind THE TEXT: how many it has.", TextSentences::typeBytes),
            new Sentence("Promise 19", "BAD; FULL: 120.", TextSentences::typeRefused),
            new Sentence("Promise 20", "THE TEXT is empty: how many it had.", TextSentences::cleared),
            new Sentence("Promise 21", "ORDERS are done (THE TEXT stays): how many.", TextSentences::doesMany),
            new Sentence("Promise 21", "S (one STATE for all).", TextSentences::doesOneState),
            new Sentence("Promise 21", "-10 less the FAULT (no S)", TextSentences::doesFault),
            new Sentence("Promise 21", "-1000 less the number (0 on) of the ORDER that ends all (no S).", TextSentences::doesEnds),
            new Sentence("Promise 22", "A STATE back: how many can be yet.", TextSentences::backYet),
            new Sentence("Promise 22", "NO: none.", TextSentences::backNone),
            new Sentence("Promise 23", "How often refused: BAD (0), NO (1), FULL (2)", TextSentences::toldRefused),
            new Sentence("Promise 23", "bytes of THE TEXT (3), STATES (4)", TextSentences::toldBytesAndStates),
            new Sentence("Promise 23", "BAD.", TextSentences::toldBad),
            new Sentence("Promise 24", "h = 1807; then h = 31 h + v for each v: told(0) to told(4); count(0) to count(5)",
                TextSentences::digestOfCounts),
            new Sentence("Promise 24", "of each NODE at(0), at(1), holds(), loose()", TextSentences::digestOfNodes),
            new Sentence("Promise 24", "of each EDGE about(0) to about(2), its FLOWS 0 to 2 (of a PLAIN one 0 alone), "
                + "each of FACTS 0 to 7.", TextSentences::digestOfEdges));
    }

    // ---- THE TEXT

    private static void bytes120(Due d) {
        MatchedFlows x = new MatchedFlows();
        String most = "p;".repeat(4) + "s1;".repeat(36) + "s33;";
        for (int i = 0; i < 120; i++) d.due("type", x.type(most.charAt(i)), i + 1);
        d.due("a 121st", x.type(' '), FULL);
        d.due("120", x.told(3), 120);
        d.due("all of them are read", x.does(), 41);
        d.due("to the last", x.count(3), 33);
        d.due("cleared", x.clear(), 120);
        d.due("room again", x.type('p'), 1);
        MatchedFlows y = new MatchedFlows();
        d.due("sixty ORDERS are read, the fifth is refused", Due.does(y, "p;".repeat(60)), -1004);
        d.due("119 bytes read", Due.does(y, "p;".repeat(59) + "p"), -130 + 1);
    }

    private static void ended(Due d) {
        d.due("two", Due.does("p;p;"), 2);
        d.due("the second is not", Due.does("p;p"), -13);
        d.due("the first is not", Due.does("pp;"), -11);
        d.due("nothing to end", Due.does(";"), -10);
        d.due("twice", Due.does("p;;"), -12);
        d.due("by another sign", Due.does("p,"), -11);
        d.due("by another sign", Due.does("s1:"), -12);
        d.due("a number's end", Due.does("s1;"), 1);
    }

    private static MatchedFlows done(Due d, MatchedFlows x, String text, int orders) {
        d.due("does " + text, Due.does(x, text), orders);
        return x;
    }

    private static void asProc(Due d) {
        MatchedFlows x = done(d, new MatchedFlows(), "p;", 1);
        d.due("PROCS", x.count(0), 2);
        d.due("its EXIT", x.at(3, 0) * 10 + x.at(3, 1), 11);
        d.due("a number behind it", Due.does("p0;"), -11);
        d.due("refused as proc", Due.does(Due.made("p;p;p;p"), "p;"), -1000);
        d.due("refused as proc", Due.does(Due.made("n0;".repeat(21)), "p;"), -1000);
    }

    private static void asNode(Due d) {
        MatchedFlows x = done(d, Due.made("p;p"), "n1;", 1);
        d.due("its PROC", x.at(6, 0) * 10 + x.at(6, 1), 12);
        d.due("no number", Due.does("n;"), -11);
        d.due("two numbers", Due.does("n0 0;"), -13);
        d.due("refused as node", Due.does("n1;"), -1000);
        d.due("refused as node", Due.does(Due.made("n0;".repeat(22)), "n0;"), -1000);
    }

    private static void asEdge(Due d) {
        MatchedFlows x = done(d, Due.made("n0;n0"), "e2 3;", 1);
        d.due("from", x.about(0, 0), 2);
        d.due("to", x.about(0, 1), 3);
        d.due("PLAIN", x.about(0, 2), NONE);
        d.due("one number", Due.does("e0;"), -12);
        d.due("three numbers", Due.does("e0 1 1;"), -15);
        d.due("refused as edge", Due.does("e0 0;"), -1000);
        d.due("refused as edge", Due.does(Due.made("e0 1;".repeat(32)), "e0 1;"), -1000);
    }

    private static void asCall(Due d) {
        MatchedFlows x = done(d, Due.made("p;n0;n0"), "c4 1 5;", 1);
        d.due("from", x.about(0, 0), 4);
        d.due("back to", x.about(0, 1), 5);
        d.due("into", x.about(0, 2), 1);
        d.due("two numbers", Due.does("c0 0;"), -14);
        d.due("four numbers", Due.does("c0 0 1 0;"), -17);
        d.due("refused as call", Due.does("c0 1 1;"), -1000);
        d.due("refused as call", Due.does(Due.made("e0 1;".repeat(32)), "c0 0 1;"), -1000);
    }

    private static void asFlows(Due d) {
        MatchedFlows x = done(d, Due.made("e0 1;c0 0 1"), "f1 2 3 254;", 1);
        d.due("set", x.goes(1, 2, 3), 254);
        d.due("not set", x.goes(1, 1, 3), 8);
        d.due("not set", x.goes(1, 2, 2), 4);
        d.due("three numbers", Due.does("f0 0 0;"), -16);
        d.due("five numbers", Due.does("f0 0 0 1 1;"), -19);
        for (String bad : new String[] {"f2 0 0 1;", "f0 1 0 1;", "f1 3 0 1;", "f1 0 8 2;", "f1 0 1 256;", "f1 0 0 2;", "f1 0 1 3;"}) {
            d.due("refused as flows: " + bad, Due.does(Due.made("e0 1;c0 0 1"), bad), -1000);
        }
    }

    private static void asStarts(Due d) {
        MatchedFlows x = done(d, new MatchedFlows(), "s129;", 1);
        d.due("START", x.count(3), 129);
        d.due("no number", Due.does("s;"), -11);
        d.due("two numbers", Due.does("s1 1;"), -13);
        d.due("all", Due.does("s255;"), 1);
        for (String bad : new String[] {"s0;", "s2;", "s254;", "s256;", "s257;", "s999;"}) {
            d.due("refused as starts: " + bad, Due.does(bad), -1000);
        }
    }

    private static void asCuts(Due d) {
        MatchedFlows x = done(d, Due.made("n0;e0 2;e2 1;c0 0 1;e0 1"), "x1;", 1);
        d.due("three left", x.count(2), 3);
        d.due("the first stays", x.about(0, 1), 2);
        d.due("the CALL is 1", x.about(1, 2), 0);
        d.due("no number", Due.does("x;"), -11);
        d.due("two numbers", Due.does("x0 0;"), -13);
        d.due("refused as cuts", Due.does("x0;"), -1000);
        d.due("refused as cuts", Due.does(Due.made("e0 1"), "x1;"), -1000);
    }

    private static void figures(Due d) {
        d.due("one", Due.does("s7;"), 1);
        d.due("two", Due.does("s07;"), 1);
        d.due("three", Due.does("s007;"), 1);
        d.due("none", Due.does("s;"), -11);
        d.due("four", Due.does("s0007;"), -14);
        d.due("the least sign that is none", Due.does("s/;"), -11);
        d.due("the next sign behind 9", Due.does("s:;"), -11);
        MatchedFlows x = new MatchedFlows();
        d.due("each figure", Due.does(x, "s159;"), 1);
        d.due("159", x.count(3), 159);
        d.due("ahead the hundreds", Due.does(x, "s063;"), 1);
        d.due("63", x.count(3), 63);
        d.due("999 is no PROC", Due.does("n999;"), -1000);
        d.due("three and three", Due.does("e000 001;"), 1);
    }

    private static void blanks(Due d) {
        d.due("at the beginning", Due.does("  p;"), 1);
        d.due("ahead of ;", Due.does("p  ;"), 1);
        d.due("at the end", Due.does("p;  "), 1);
        d.due("between ORDERS", Due.does("p;  p;"), 2);
        d.due("behind a letter", Due.does("s  7;"), 1);
        d.due("behind a number", Due.does("s7  ;"), 1);
        d.due("many between numbers", Due.does(" c  0   0    1 ; "), 1);
        d.due("in a long ORDER", Due.does(Due.made("e0 1"), " f 0  0 0  1 ;"), 1);
        for (int c : new int[] {0, 9, 10, 13, 31, 33, 95, 127}) {
            d.due("byte " + c + " is no blank", Due.does("p;" + (char) c), -12);
            d.due("byte " + c + " is no blank", Due.does("e0" + (char) c + "1;"), -12);
        }
    }

    private static void blankWithin(Due d) {
        d.due("1 and 7 are two", Due.does("s1 7;"), -13);
        d.due("figures behind", Due.does("s 12 9;"), -15);
        MatchedFlows x = Due.made("n0;".repeat(10));
        d.due("1 and 0 are two of three", Due.does(x, "e1 0 11;"), -15);
        d.due("10 is one", Due.does(x, "e10 11;"), 1);
    }

    private static void blankNeeded(Due d) {
        d.due("0 and 1 side by side are 01", Due.does("e01;"), -13);
        d.due("with one", Due.does("e0 1;"), 1);
        d.due("none behind a letter, a number or ;", Due.does("p;n1;c0 1 1;s3;x0;"), 5);
        d.due("a letter behind a number", Due.does("s1p;"), -12);
        MatchedFlows x = new MatchedFlows();
        d.due("three figures and one more", Due.does(x, "e0001;"), -14);
        d.due("three figures, a blank, one more", Due.does(x, "e000 1;"), 1);
    }

    private static void readWholeFirst(Due d) {
        MatchedFlows x = new MatchedFlows();
        d.due("a FAULT behind an ORDER that would be refused", Due.does(x, "s2;p;q"), -15);
        d.due("an end that is too early behind one", Due.does(x, "x0;p"), -14);
        d.due("a FAULT behind one that would not", Due.does(x, "p;s3;s"), -16);
        d.due("nothing done", x.count(0) * 10 + x.count(3), 11);
        d.due("the FAULT in the last byte", Due.does(x, "s2;".repeat(39) + "s2x"), -129);
    }

    private static void endsAll(Due d) {
        String some = "p;n0;e0 4;s3;s5;";
        MatchedFlows x = Due.made(some);
        MatchedFlows twin = Due.made(some);
        d.due("the last", Due.does(x, "p;n2;e4 1;f0 0 1 8;x0;s0;"), -1005);
        d.due("the first of two", Due.does(x, "p;e0 0;s0;"), -1001);
        d.due("the first, FULL", Due.does(x, "p;p;p;p;s0;"), -1003);
        d.due("THE TEXT stays", x.clear(), 11);
        d.due("nothing is done", x.digest(), twin.digest());
        for (int i = 4; i >= 0; i--) {
            d.due("STATES are as they were", x.back(), i);
            twin.back();
            d.due("and what they hold", x.digest(), twin.digest());
        }
        d.due("an ORDER sees what those ahead of it did", Due.does("p;n1;e2 4;f0 0 1 4;x0;c4 1 3;f0 2 1 4;"), 7);
        d.due("an EDGE that was cut", Due.does("e0 1;x0;x0;"), -1002);
    }

    private static void fault(Due d, String text, int place) {
        d.due("FAULT in '" + text + "'", Due.does(text), -10 - place);
    }

    private static void faultPlace(Due d) {
        for (String other : new String[] {"a", "q", "P", "N", "E", "0", "9", "-", ".", "\0", "\177"}) fault(d, other + ";", 0);
        for (char c = 0; c < 128; c++) {
            if ("pnecfsx ".indexOf(c) < 0) fault(d, "p;" + c, 2);
        }
        fault(d, "   q", 3);
        fault(d, "p q;", 2);
        fault(d, "n-1;", 1);
        fault(d, "n+1;", 1);
        fault(d, "nn0;", 1);
        fault(d, "e0,1;", 2);
        fault(d, "e0 x;", 3);
        fault(d, "c0 0;", 4);
        fault(d, "f0 0 0 1 1;", 9);
        fault(d, "f0 0 0 1p", 8);
        fault(d, "q;q;", 0);
        fault(d, "p;".repeat(59) + "pp", 119);
        fault(d, " ".repeat(119) + "q", 119);
    }

    private static void fourthFigure(Due d) {
        fault(d, "n0000;", 4);
        fault(d, "n1234", 4);
        fault(d, "n 00000;", 5);
        fault(d, "e0001 1;", 4);
        fault(d, "e0 0001;", 6);
        fault(d, "c0 0 0001;", 8);
        fault(d, "f0 0 0 0001;", 10);
        d.due("a third", Due.does("s001;"), 1);
    }

    private static void endsTooEarly(Due d) {
        String whole = "f0 0 1 254;";
        for (int i = 1; i < whole.length(); i++) fault(d, whole.substring(0, i), i);
        fault(d, "p", 1);
        fault(d, "p ", 2);
        fault(d, "p;n", 3);
        fault(d, "p;n123", 6);
        fault(d, "p;n 1 ", 6);
        fault(d, "p;".repeat(59) + " p", 120);
        fault(d, "p;".repeat(58) + " n 1", 120);
        fault(d, "p;".repeat(58) + "n123", 120);
        fault(d, "p;".repeat(58) + "n 1 ", 120);
        d.due("not too early", Due.does("p; "), 1);
        MatchedFlows x = Due.typed(new MatchedFlows(), "s1234;");
        d.due("what was cleared is not read", Due.does(x, "s12"), -13);
        d.due("nor is a ; of it", Due.does(Due.typed(x, "p;p;"), "p"), -11);
        d.due("nor an ORDER of it", Due.does(Due.typed(x, "p;p;"), "p;"), 1);
    }

    private static void emptyText(Due d) {
        fault(d, "", 0);
        fault(d, " ", 1);
        fault(d, "     ", 5);
        fault(d, " ".repeat(120), 120);
        MatchedFlows x = Due.typed(new MatchedFlows(), "p;");
        x.clear();
        d.due("cleared", x.does(), -10);
        d.due("and nothing done", x.count(0), 1);
    }

    private static void faultDoesNothing(Due d) {
        String some = "p;n0;e0 4;s3;s5;";
        MatchedFlows x = Due.made(some);
        MatchedFlows twin = Due.made(some);
        d.due("behind right ones", Due.does(x, "p;s7;x0;q"), -18);
        d.due("ends too early", Due.does(x, "p;s7;x0"), -17);
        d.due("empty", Due.does(x, ""), -10);
        d.due("nothing is done", x.digest(), twin.digest());
        for (int i = 4; i >= 0; i--) {
            d.due("STATES are as they were", x.back(), i);
            twin.back();
            d.due("and what they hold", x.digest(), twin.digest());
        }
    }

    // ---- STATES, what is refused

    private static void leavesOne(Due d) {
        List<ToIntFunction<MatchedFlows>> changes = List.of(MatchedFlows::proc, x -> x.node(1), x -> x.edge(2, 3),
            x -> x.call(0, 1, 1), x -> x.flows(0, 0, 1, 4), x -> x.starts(3), x -> x.cuts(0), MatchedFlows::does);
        for (int i = 0; i < changes.size(); i++) {
            MatchedFlows x = Due.typed(Due.made("p;e0 1"), "p;n2;");
            long before = x.digest();
            d.due("change " + i, Math.min(changes.get(i).applyAsInt(x), 0), 0);
            d.due("one more by " + i, x.told(4), 3);
            d.due("there is a change by " + i, before == x.digest() ? 1 : 0, 0);
            d.due("back from " + i, x.back(), 2);
            d.due("as it was before " + i, x.digest(), before);
        }
        MatchedFlows x = Due.typed(Due.made("p;e0 1;s3"), "p;");
        askEverything(x);
        d.due("what only tells leaves none", x.told(4), 3);
        x.type('p');
        x.clear();
        d.due("nor do type and clear", x.told(4), 3);
        x.back();
        d.due("nor does back", x.told(4), 2);
        MatchedFlows y = Due.made("p;e0 1");
        ToIntFunction<MatchedFlows> none = z -> z.node(9) + z.edge(1, 1) + z.call(0, 9, 1) + z.flows(0, 1, 0, 1) + z.starts(2) + z.cuts(9);
        d.due("six refused", none.applyAsInt(y), 6 * BAD);
        d.due("a refused one leaves none", y.told(4), 2);
        d.due("nor does a FAULT", Due.does(y, "p") + 10 * y.told(4), 20 - 11);
        d.due("nor an ORDER that ends all", Due.does(y, "s2;") + 10 * y.told(4), 20 - 1000);
    }

    private static void askEverything(MatchedFlows x) {
        x.at(0, 0);
        x.about(0, 0);
        x.goes(0, 0, 0);
        x.count(4);
        x.holds(0);
        x.loose(0);
        x.origins(0, 0);
        x.summary(0, 0);
        x.entry(0, 0);
        x.witness(0, 0, 0);
        x.told(0);
        x.digest();
    }

    private static void leavesOneOfTheSame(Due d) {
        MatchedFlows x = Due.made("e0 1");
        d.due("flows as they are", x.flows(0, 0, 1, 2), 2);
        d.due("a STATE", x.told(4), 2);
        d.due("starts as it is", x.starts(1), 1);
        d.due("a STATE", x.told(4), 3);
        d.due("does what is so", Due.does(x, "s1;f0 0 1 2;"), 2);
        d.due("a STATE", x.told(4), 4);
        d.due("does and takes away", Due.does(x, "e0 1;x1;"), 2);
        d.due("a STATE", x.told(4), 5);
        for (int i = 4; i >= 1; i--) {
            d.due("back", x.back(), i);
            d.due("the same", x.count(2) * 10 + x.count(3), 11);
        }
        d.due("back", x.back(), 0);
        d.due("before the EDGE", x.count(2), 0);
    }

    private static void goesBackTo(Due d) {
        MatchedFlows x = Due.made("p;n0;e0 4;c4 1 1;f1 1 1 8");
        long before = Due.made("p;n0;e0 4;c4 1 1;f1 1 1 8").digest();
        d.due("as made", x.digest(), before);
        d.due("all of it becomes other", Due.does(x, "p;n1;s255;f1 1 1 0;f0 0 0 3;x0;e4 1;"), 7);
        x.type('p');
        x.holds(99);
        d.due("a STATE back", x.back(), 4);
        d.due("PROCS", x.count(0), 2);
        d.due("NODES", x.count(1), 5);
        d.due("EDGES", x.count(2), 2);
        d.due("START", x.count(3), 1);
        d.due("the first EDGE", x.about(0, 0) * 100 + x.about(0, 1) * 10 + x.about(0, 2), 40 - 1);
        d.due("its FLOW", x.goes(0, 0, 0), 1);
        d.due("the CALL", x.about(1, 0) * 100 + x.about(1, 1) * 10 + x.about(1, 2), 411);
        d.due("its IN", x.goes(1, 1, 1), 8);
        d.due("what holds", x.holds(1), 1);
        d.due("not THE TEXT", x.told(3), 37);
        d.due("nor how often refused", x.told(0), 1);
        x.back();
        x.back();
        d.due("nor by the next", x.told(3) * 10 + x.told(0), 371);
        MatchedFlows y = Due.made("e0 1;f0 0 0 3");
        d.due("what holds and is loose now", y.holds(1) * 10 + y.loose(1), 33);
        y.back();
        d.due("held and was loose before", y.holds(1) * 10 + y.loose(1), 11);
        d.due("THE TEXT that stayed is cleared", x.clear(), 37);
        x.back();
        d.due("and does not come again", x.told(3), 0);
    }

    private static void fiveStates(Due d) {
        for (int made = 0; made <= 9; made++) {
            MatchedFlows x = new MatchedFlows();
            for (int v = 1; v <= made; v++) x.starts(2 * v + 1);
            int kept = Math.min(made, 5);
            d.due("STATES of " + made, x.told(4), kept);
            for (int i = 1; i <= kept; i++) {
                d.due("back", x.back(), kept - i);
                d.due("START", x.count(3), 2 * (made - i) + 1);
            }
            d.due("older ones are lost", x.back(), NO);
            d.due("START stays", x.count(3), 2 * (made - kept) + 1);
        }
        MatchedFlows y = Due.made("s3;s5;s7;s9;s11;s13;s15");
        y.back();
        y.back();
        Due.more(y, "s17;s19;s21");
        d.due("five again", y.told(4), 5);
        int[] before = {19, 17, 11, 9, 7};
        for (int i = 0; i < 5; i++) {
            d.due("back", y.back(), 4 - i);
            d.due("those of before and of after", y.count(3), before[i]);
        }
        d.due("no more", y.back(), NO);
    }

    /** Five STATES, each another, and a TEXT that can be done. */
    private static MatchedFlows some() {
        return Due.typed(Due.made("p;n0;e0 4;c4 1 1;e2 3;f1 1 0 3;s7"), "s9;n1;");
    }

    private static void anyRefused(Due d) {
        List<ToIntFunction<MatchedFlows>> bad = List.of(x -> x.node(2), x -> x.edge(0, 3), x -> x.call(0, 2, 1),
            x -> x.flows(0, 1, 0, 1), x -> x.starts(2), x -> x.cuts(3), x -> x.at(5, 0), x -> x.about(3, 0), x -> x.goes(0, 1, 0),
            x -> x.count(6), x -> x.holds(5), x -> x.loose(5), x -> x.origins(5, 0), x -> x.summary(3, 0), x -> x.entry(-1, 0),
            x -> x.witness(5, 0, 0), x -> x.type(128), x -> x.told(5));
        for (int i = 0; i < bad.size(); i++) d.refused("refused " + i, some(), some(), BAD, bad.get(i));
        d.refused("summary of a PLAIN one", some(), some(), NO, x -> x.summary(0, 0));
        d.refused("back", Due.typed(new MatchedFlows(), "p;"), Due.typed(new MatchedFlows(), "p;"), NO, MatchedFlows::back);
        String full = "p;p;p;p;" + "n3;".repeat(14) + "e0 1;".repeat(30) + "c0 4 1;c2 3 3";
        String text = "s3;".repeat(40);
        List<ToIntFunction<MatchedFlows>> more = List.of(MatchedFlows::proc, x -> x.node(0), x -> x.edge(0, 1),
            x -> x.call(0, 4, 1), x -> x.type(0));
        for (int i = 0; i < more.size(); i++) {
            d.refused("FULL " + i, Due.typed(Due.made(full), text), Due.typed(Due.made(full), text), FULL, more.get(i));
        }
    }

    private static void firstOf(Due d) {
        MatchedFlows x = Due.typed(Due.made("n0;".repeat(22) + "e0 1;".repeat(32)), " ".repeat(120));
        d.due("node", x.node(1), BAD);
        d.due("edge", x.edge(0, 0), BAD);
        d.due("call", x.call(0, 1, 1), BAD);
        d.due("call", x.call(1, 0, 2), BAD);
        d.due("type", x.type(-1), BAD);
        d.due("summary", x.summary(0, 8), BAD);
        d.due("six counted as BAD alone", x.told(0) * 10000 + x.told(1) * 100 + x.told(2), 60000);
        d.due("node", x.node(0), FULL);
        d.due("edge", x.edge(0, 1), FULL);
        d.due("call", x.call(0, 0, 1), FULL);
        d.due("type", x.type(0), FULL);
        d.due("proc", x.proc(), FULL);
        d.due("summary", x.summary(0, 7), NO);
        d.due("each as it is", x.told(0) * 10000 + x.told(1) * 100 + x.told(2), 60105);
    }

    private static void textCountsNothing(Due d) {
        for (String refused : new String[] {"n9;", "e0 0;", "c0 9 1;", "f9 0 0 1;", "s2;", "x9;", "p;p;p;p;p;", "p", "q", ""}) {
            MatchedFlows x = Due.made("e0 1");
            d.due("is refused: " + refused, Math.max(Due.does(x, refused), -10), -10);
            d.due("not counted: " + refused, x.told(0) + x.told(1) + x.told(2), 0);
            d.due("no STATE: " + refused, x.told(4), 1);
        }
        MatchedFlows full = Due.made("n0;".repeat(22) + "e0 1;".repeat(32));
        for (String refused : new String[] {"n0;", "p;", "e0 1;", "c0 0 1;"}) d.due(refused, Due.does(full, refused), -1000);
        d.due("no FULL is counted", full.told(0) + full.told(1) + full.told(2), 0);
    }

    // ---- Promises 19 to 24

    private static void typeBytes(Due d) {
        MatchedFlows x = new MatchedFlows();
        d.due("the least", x.type(0), 1);
        d.due("the greatest", x.type(127), 2);
        d.due("has two", x.told(3), 2);
        x.clear();
        d.due("anew", x.type('p'), 1);
        d.due("behind it", x.type(';'), 2);
        d.due("in that order", x.does(), 1);
        d.due("behind it again", x.type('s'), 3);
        d.due("read with it", x.does(), -13);
    }

    private static void typeRefused(Due d) {
        for (int c : new int[] {128, -1, 255, 256 + 'p', LEAST, MOST}) {
            d.refused("type " + c, Due.typed(Due.made("n0"), "p;"), Due.typed(Due.made("n0"), "p;"), BAD, x -> x.type(c));
        }
        String full = "s1;".repeat(40);
        d.due("the 120th", Due.typed(new MatchedFlows(), full.substring(1)).type(';'), 120);
        d.refused("a 121st", Due.typed(Due.made("n0"), full), Due.typed(Due.made("n0"), full), FULL, x -> x.type('p'));
        d.refused("BAD ahead of FULL", Due.typed(Due.made("n0"), full), Due.typed(Due.made("n0"), full), BAD, x -> x.type(128));
    }

    private static void cleared(Due d) {
        MatchedFlows x = Due.made("n0");
        d.due("none", x.clear(), 0);
        d.due("still none", x.clear(), 0);
        for (int i = 0; i < 120; i++) x.type('p');
        d.due("120", x.clear(), 120);
        d.due("empty", x.told(3), 0);
        d.due("empty", x.does(), -10);
        d.due("no STATE of it", x.told(4), 1);
        x.type(';');
        d.due("nothing is left of what it had", x.does(), -10);
    }

    private static void doesMany(Due d) {
        MatchedFlows x = new MatchedFlows();
        d.due("one", Due.does(x, "s3;"), 1);
        d.due("THE TEXT stays", x.told(3), 3);
        d.due("and can be done again", x.does(), 1);
        d.due("seven", Due.does(x, "p;n0;e0 4;c4 1 1;f1 1 0 3;s5;x0;"), 7);
        d.due("done in that order", x.about(0, 2) * 100 + x.goes(0, 1, 0) * 10 + x.count(3), 135);
        d.due("40", Due.does(x, "s1;".repeat(40)), 40);
        d.due("41", Due.does(new MatchedFlows(), "p;".repeat(4) + "s1;".repeat(37)), 41);
    }

    private static void doesOneState(Due d) {
        MatchedFlows x = Due.made("n0");
        d.due("three", Due.does(x, "s3;s5;s7;"), 3);
        d.due("one STATE", x.told(4), 2);
        d.due("back", x.back(), 1);
        d.due("ahead of all three", x.count(3), 1);
        d.due("40 ORDERS", Due.does(x, "s3;".repeat(40)), 40);
        d.due("one STATE", x.told(4), 2);
        Due.more(x, "s5;s7;s9");
        d.due("again", x.does(), 40);
        d.due("five at most", x.told(4), 5);
    }

    private static void doesFault(Due d) {
        MatchedFlows x = Due.made("n0");
        d.due("0", Due.does(x, "q"), -10);
        d.due("empty", Due.does(x, ""), -10);
        d.due("5", Due.does(x, "n0;p;;"), -15);
        d.due("119", Due.does(x, " ".repeat(119) + ";"), -129);
        d.due("120", Due.does(x, " ".repeat(120)), -130);
        d.due("no S", x.told(4), 1);
        d.due("no NODE", x.count(1), 3);
    }

    private static void doesEnds(Due d) {
        MatchedFlows x = Due.made("n0");
        d.due("0", Due.does(x, "s2;p;"), -1000);
        d.due("1", Due.does(x, "p;s2;"), -1001);
        d.due("4", Due.does(x, "p;p;p;p;p;p;"), -1004);
        d.due("40, the last of the most", Due.does(x, "p;".repeat(4) + "s1;".repeat(36) + "s0;"), -1040);
        d.due("no S", x.told(4), 1);
        d.due("no PROC", x.count(0), 1);
    }

    private static void backYet(Due d) {
        MatchedFlows x = Due.made("n0;s3;e0 2");
        d.due("two yet", x.back(), 2);
        d.due("no EDGE", x.count(2), 0);
        d.due("one yet", x.back(), 1);
        d.due("START", x.count(3), 1);
        x.starts(255);
        d.due("two again", x.told(4), 2);
        d.due("from there", x.back(), 1);
        d.due("START", x.count(3), 1);
        d.due("none yet", x.back(), 0);
        d.due("as new", x.count(1), 2);
        d.due("not refused", x.told(1), 0);
    }

    private static void backNone(Due d) {
        d.refused("a new object", new MatchedFlows(), new MatchedFlows(), NO, MatchedFlows::back);
        MatchedFlows x = Due.made("s3");
        x.back();
        d.due("none left", x.back(), NO);
        d.due("nor again", x.back(), NO);
        d.due("twice", x.told(1), 2);
        d.due("START", x.count(3), 1);
        Due.more(x, "s3;s5;s7;s9;s11;s13");
        for (int i = 4; i >= 0; i--) d.due("back", x.back(), i);
        d.due("the sixth is lost", x.back(), NO);
    }

    private static void toldRefused(Due d) {
        MatchedFlows x = Due.made("p;p;p;p;e0 1");
        for (int i = 0; i < 5; i++) x.holds(-1);
        for (int i = 0; i < 3; i++) x.summary(0, 0);
        for (int i = 0; i < 7; i++) x.proc();
        d.due("BAD", x.told(0), 5);
        d.due("NO", x.told(1), 3);
        d.due("FULL", x.told(2), 7);
        x.entry(99, 0);
        x.witness(1, 7, 0);
        x.about(0, 2);
        x.does();
        d.due("NONE and a FAULT are none of them", x.told(0) * 100 + x.told(1) * 10 + x.told(2), 537);
    }

    private static void toldBytesAndStates(Due d) {
        MatchedFlows x = new MatchedFlows();
        for (int i = 1; i <= 120; i++) {
            x.type(i);
            d.due("bytes", x.told(3), i);
        }
        x.type(0);
        d.due("no more", x.told(3), 120);
        for (int i = 1; i <= 7; i++) {
            x.starts(1);
            d.due("STATES", x.told(4), Math.min(i, 5));
        }
        x.back();
        d.due("one less", x.told(4), 4);
        d.due("bytes as they were", x.told(3), 120);
    }

    private static void toldBad(Due d) {
        for (int what : new int[] {5, -1, LEAST, MOST}) d.refused("told " + what, some(), some(), BAD, x -> x.told(what));
    }

    private static long hash(long h, int... values) {
        for (int v : values) h = 31 * h + v;
        return h;
    }

    private static void digestOfCounts(Due d) {
        long nodes = hash(hash(1807, 0, 0, 0, 0, 0, 1, 2, 0, 1, 1, 1), 0, 0, 1, 1, 0, 1, 0, 0);
        d.due("a new object", new MatchedFlows().digest(), nodes);
        MatchedFlows x = Due.typed(Due.made("s3;s7;s3"), "p;p;p");
        for (int i = 0; i < 4; i++) x.count(6);
        for (int i = 0; i < 3; i++) x.back();
        for (int i = 0; i < 2; i++) x.back();
        Due.more(x, "s3;s7;s3");
        for (int i = 0; i < 20; i++) x.node(0);
        x.proc();
        x.proc();
        d.due("told", hash(1807, x.told(0), x.told(1), x.told(2), x.told(3), x.told(4)), hash(1807, 4, 2, 1, 5, 5));
        long h = hash(1807, 4, 2, 1, 5, 5, 2, 24, 0, 3, 2, 1);
        for (int n = 0; n < 24; n++) h = hash(h, x.at(n, 0), x.at(n, 1), x.holds(n), x.loose(n));
        d.due("all of them", x.digest(), h);
        d.due("and again", x.digest(), h);
    }

    private static void digestOfNodes(Due d) {
        MatchedFlows x = Due.made("p;n0;n0;e2 3;c0 1 4;s7;f1 1 2 0;f1 0 1 0;f1 0 2 0;n0;n0;c6 1 7;x0;x0;x0;e0 4;f0 0 1 8");
        long h = hash(1807, 0, 0, 0, 0, 5, 2, 8, 1, 7, 6, 2);
        h = hash(h, 0, 0, 7, 7, 0, 1, 0, 0, 1, 0, 0, 0, 1, 1, 0, 0, 0, 2, 13, 13, 0, 2, 0, 0, 0, 2, 0, 0, 0, 2, 0, 0);
        d.due("PLAIN", x.digest(), hash(h, 0, 4, -1, 1, 8, 4, 8, 16, 32, 64, 128));
        // Here what holds at NODE 5 and what is loose there differ.
        MatchedFlows y = Due.made("p;n0;n0;e2 3;c0 1 4;c0 1 5;s3;f2 0 1 0;f2 1 1 0;n0;c6 1 6");
        long g = hash(1807, 0, 0, 0, 0, 5, 2, 7, 4, 3, y.count(4), 5);
        g = hash(g, 0, 0, 3, 3, 0, 1, 0, 0, 1, 0, 3, 3, 1, 1, 3, 3, 0, 2, 3, 3, 0, 2, 1, 3, 0, 2, 0, 3);
        for (int e = 0; e < 4; e++) g = ofEdge(g, y, e);
        d.due("two CALLS", y.digest(), g);
    }

    private static long ofEdge(long before, MatchedFlows x, int e) {
        long h = hash(before, x.about(e, 0), x.about(e, 1), x.about(e, 2));
        for (int w = 0; w < (x.about(e, 2) == NONE ? 1 : 3); w++) for (int a = 0; a < 8; a++) h = hash(h, x.goes(e, w, a));
        return h;
    }

    private static void digestOfEdges(Due d) {
        MatchedFlows x = Due.made("n0;e0 2;c2 0 1;f0 0 1 0;f0 0 7 2;f1 0 2 64;f1 1 3 32;f1 2 4 254;f1 2 0 129");
        long h = hash(1807, 0, 0, 0, 0, 5, 1, 3, 2, 1, x.count(4), x.count(5));
        for (int n = 0; n < 3; n++) h = hash(h, x.at(n, 0), x.at(n, 1), x.holds(n), x.loose(n));
        h = hash(h, 0, 2, -1, 1, 0, 4, 8, 16, 32, 64, 2);
        h = hash(h, 2, 1, 0, 1, 2, 64, 8, 16, 32, 64, 128);
        h = hash(h, 1, 2, 4, 32, 16, 32, 64, 128);
        d.due("one PLAIN, one CALL", x.digest(), hash(h, 129, 2, 4, 8, 254, 32, 64, 128));
    }
}
