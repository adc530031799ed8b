import java.util.ArrayList;
import java.util.List;
import java.util.function.ToIntFunction;

/** What the trials of the sentences share: what was wrong, objects made of orders, texts, refused calls. */
final class Due {
    static final int NONE = -1, BAD = -2, NO = -3, FULL = -4;

    private final List<String> wrong = new ArrayList<>();

    List<String> wrong() { return wrong; }

    void due(String what, long got, long want) {
        if (got != want) wrong.add(what + " answered " + got + ", due is " + want);
    }

    /** A new object on which these orders were called (not typed), none of them refused. */
    static MatchedFlows made(String orders) { return more(new MatchedFlows(), orders); }

    static MatchedFlows more(MatchedFlows x, String orders) {
        for (String order : orders.split(";")) {
            if (!order.isBlank() && called(x, order.trim()) < 0) throw new IllegalStateException("refused: " + order);
        }
        return x;
    }

    private static int called(MatchedFlows x, String order) {
        String[] words = order.substring(1).trim().split(" +");
        int[] v = new int[4];
        for (int i = 0; i < words.length && !words[i].isEmpty(); i++) v[i] = Integer.parseInt(words[i]);
        return switch (order.charAt(0)) {
            case 'p' -> x.proc();
            case 'n' -> x.node(v[0]);
            case 'e' -> x.edge(v[0], v[1]);
            case 'c' -> x.call(v[0], v[1], v[2]);
            case 'f' -> x.flows(v[0], v[1], v[2], v[3]);
            case 's' -> x.starts(v[0]);
            case 'x' -> x.cuts(v[0]);
            default -> throw new IllegalArgumentException(order);
        };
    }

    /** The same orders over and over, # being the numbers from first to last. */
    static String rows(String orders, int first, int last) {
        StringBuilder s = new StringBuilder();
        for (int i = first; i <= last; i++) s.append(orders.replace("#", Integer.toString(i)));
        return s.toString();
    }

    static MatchedFlows typed(MatchedFlows x, String text) {
        x.clear();
        for (int i = 0; i < text.length(); i++) x.type(text.charAt(i));
        return x;
    }

    static int does(MatchedFlows x, String text) { return typed(x, text).does(); }

    static int does(String text) { return does(new MatchedFlows(), text); }

    /** Each row is (p, a, n, b). */
    void entries(MatchedFlows x, int[]... want) {
        due("how many ENTRIES", x.count(4), want.length);
        for (int i = 0; i < want.length; i++) {
            for (int what = 0; what < 4; what++) due("entry " + i + " " + what, x.entry(i, what), want[i][what]);
        }
    }

    void pairs(MatchedFlows x, int n, int f, int... want) {
        due("how many PAIRS of " + n + " " + f, x.witness(n, f, NONE), want.length);
        for (int i = 0; i < want.length; i++) due("pair " + i + " of " + n + " " + f, x.witness(n, f, i), want[i]);
        due("behind them", x.witness(n, f, want.length), NONE);
    }

    /** The call is refused, counted as that, and changes nothing else, of now, of the STATES or of THE TEXT. */
    void refused(String what, MatchedFlows x, MatchedFlows twin, int why, ToIntFunction<MatchedFlows> call) {
        int kind = BAD - why;
        int before = twin.told(kind);
        due(what, call.applyAsInt(x), why);
        due(what + ", counted", x.told(kind), before + 1);
        alikeButTold(what, x, twin, kind);
        int states = twin.told(4);
        due(what + ", STATES", x.told(4), states);
        for (int i = states - 1; i >= 0; i--) {
            due(what + ", back", x.back(), i);
            twin.back();
            alikeButTold(what + ", back to " + i, x, twin, kind);
        }
        due(what + ", THE TEXT", x.does(), twin.does());
        alikeButTold(what + ", THE TEXT done", x, twin, kind);
    }

    /** By one more of that kind told, the digest is greater by 31 for each number behind it, multiplied. */
    private void alikeButTold(String what, MatchedFlows x, MatchedFlows twin, int kind) {
        int edges = twin.count(2);
        int behind = 4 - kind + 6 + 4 * twin.count(1);
        for (int e = 0; e < edges; e++) behind += 3 + (twin.about(e, 2) == NONE ? 8 : 24);
        long more = 1;
        for (int i = 0; i < behind; i++) more *= 31;
        due(what + ", the rest", x.digest(), twin.digest() + more);
    }
}
