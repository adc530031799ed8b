import java.util.ArrayList;
import java.util.List;

/**
 * The fullest table and the longest witnesses, beside the Model; and each witness replayed, call by call.
 * Some of it takes more than 512 calls of one object: the document promises nothing of those, but no call may fail.
 */
public final class LimitsTest {
    private static int wrong = 0;
    private final MatchedFlows x = new MatchedFlows();
    private final Model model = new Model();

    public static void main(String[] args) {
        new LimitsTest().fullTable();
        new LimitsTest().longWitness(4);
        new LimitsTest().longWitness(3);
        new LimitsTest().longInner();
        new LimitsTest().replayed();
        System.out.println(wrong == 0 ? "the limits hold" : wrong + " answers are not as due");
        if (wrong != 0) System.exit(1);
    }

    private static void due(String what, long got, long want) {
        if (got == want) return;
        wrong++;
        System.out.println(what + " answered " + got + ", due is " + want);
    }

    private void proc() { due("proc", x.proc(), model.proc()); }
    private void node(int p) { due("node", x.node(p), model.node(p)); }
    private void edge(int n, int m) { due("edge", x.edge(n, m), model.edge(n, m)); }
    private void call(int n, int q, int m) { due("call", x.call(n, q, m), model.call(n, q, m)); }
    private void starts(int v) { due("starts", x.starts(v), model.starts(v)); }
    private void flows(int e, int w, int a, int v) { due("flows", x.flows(e, w, a, v), model.flows(e, w, a, v)); }

    private void compareTables() {
        due("size", x.count(4), model.count(4));
        for (int i = 0; i <= model.count(4); i++) {
            for (int what = 0; what < 4; what++) due("entry " + i, x.entry(i, what), model.entry(i, what));
        }
    }

    private void compareWitness(int n, int f) {
        int many = model.witness(n, f, -1);
        due("witness " + n + " " + f, x.witness(n, f, -1), many);
        for (int i = 0; i <= Math.max(0, many) + 1; i++) {
            due("witness " + n + " " + f + " " + i, x.witness(n, f, i), model.witness(n, f, i));
        }
    }

    /** 5 PROCS, 24 NODES, 32 EDGES, most of them CALLS of PROCS that call one another, every FACT to every FACT. */
    private void fullTable() {
        for (int p = 1; p < 5; p++) proc();
        for (int i = 0; i < 14; i++) node(i % 5);
        // NODES 10 to 23: from each ENTRY a row through the NODES of its PROC to the EXIT, by CALLS.
        for (int p = 0; p < 5; p++) {
            int from = 2 * p;
            for (int n = 10 + p; n < 24; n += 5) {
                call(from, (p + n) % 5, n);
                from = n;
            }
            edge(from, 2 * p + 1);
        }
        while (model.count(2) < 32) call(0, model.count(2) % 5, 10);
        for (int e = 0; e < 32; e++) {
            for (int w = 0; w < (model.about(e, 2) == -1 ? 1 : 3); w++) {
                for (int a = 0; a < 8; a++) flows(e, w, a, a == 0 ? 255 : 254);
            }
        }
        starts(255);
        // FACT 0 comes of FACT 0 alone: 57 of 64 for each of 24 NODES, but at an ENTRY 8.
        due("the fullest table", x.count(4), 57 * 19 + 8 * 5);
        compareTables();
        for (int n = 0; n < 24; n++) {
            due("holds", x.holds(n), 255);
            due("loose", x.loose(n), 255);
            due("origins", x.origins(n, 3), model.origins(n, 3));
            for (int f = 0; f < 8; f++) compareWitness(n, f);
        }
        for (int e = 0; e < 32; e++) due("summary", x.summary(e, 5), model.summary(e, 5));
        due("digest", x.digest(), model.digest());
    }

    /** PROCS 0 to 3 each call the next one that often in a row, and nothing goes beside FACT 1. */
    private void longWitness(int calls) {
        for (int p = 1; p < 5; p++) proc();
        for (int p = 0; p < 4; p++) callsInARow(p, calls);
        node(4);
        int middle = model.count(1) - 1;
        edge(8, middle);
        edge(middle, 9);
        for (int e = 0; e < 4 * calls; e++) flows(e, 0, 1, 0);
        starts(3);
        compareTables();
        for (int n = 0; n < model.count(1); n++) compareWitness(n, 1);
        due("at EXIT 0", x.witness(1, 1, -1), calls == 4 ? 1000 : 403);
        due("the last told", x.witness(1, 1, 999), calls == 4 ? model.pairs(1, 1).get(999) : -1);
        due("behind", x.witness(1, 1, 1000), -1);
    }

    /** One call with more than 1000 PAIRS within; in the last PROC FACT 1 becomes 7 step by step, in a loop. */
    private void longInner() {
        for (int p = 1; p < 5; p++) proc();
        call(0, 1, 1);
        for (int p = 1; p < 4; p++) callsInARow(p, 5);
        node(4);
        int loop = model.count(1) - 1;
        edge(8, loop);
        edge(loop, loop);
        edge(loop, 9);
        for (int e = 0; e < 16; e++) flows(e, 0, 1, 0);
        for (int a = 1; a < 8; a++) {
            flows(17, 0, a, a == 7 ? 0 : 2 << a);
            flows(18, 0, a, a == 7 ? 2 : 0);
        }
        starts(3);
        compareTables();
        for (int n = 0; n < model.count(1); n++) for (int f = 1; f < 8; f++) compareWitness(n, f);
        due("at EXIT 0", x.witness(1, 1, -1), 1000);
    }

    private void callsInARow(int p, int calls) {
        int from = 2 * p;
        for (int i = 1; i < calls; i++) {
            node(p);
            int to = model.count(1) - 1;
            call(from, p + 1, to);
            from = to;
        }
        call(from, p + 1, 2 * p + 1);
    }

    /** Two PROCS that call each other and themselves; every witness is a path on which returns match. */
    private void replayed() {
        proc();
        node(0);
        node(0);
        node(1);
        node(1);
        call(0, 1, 4);
        call(4, 1, 5);
        edge(5, 1);
        edge(2, 6);
        call(6, 1, 7);
        call(7, 0, 3);
        edge(2, 3);
        edge(7, 3);
        edge(4, 1);
        flows(0, 1, 0, 7);
        flows(0, 2, 2, 8);
        flows(1, 1, 3, 16);
        flows(1, 2, 4, 96);
        flows(4, 1, 1, 4);
        flows(4, 2, 2, 32);
        flows(5, 1, 5, 64);
        flows(5, 2, 6, 128);
        for (int e : new int[] {0, 1, 4, 5}) for (int a = 1; a < 8; a++) flows(e, 0, a, 0);
        starts(11);
        compareTables();
        for (int n = 0; n < model.count(1); n++) {
            for (int f = 0; f < 8; f++) {
                compareWitness(n, f);
                if (model.witness(n, f, -1) > 0) due("replay of " + n + " " + f, replays(n, f) ? 1 : 0, 1);
            }
        }
    }

    /** Follows the PAIRS by every EDGE that fits, with the CALLS that are open. */
    private boolean replays(int n, int f) {
        int many = x.witness(n, f, -1);
        List<Integer> pairs = new ArrayList<>();
        for (int i = 0; i < many; i++) pairs.add(x.witness(n, f, i));
        int first = pairs.get(0);
        boolean ends = pairs.get(many - 1) == 10 * n + f;
        return first / 10 == 0 && (x.count(3) >> first % 10 & 1) == 1 && ends && follows(pairs, 0, new ArrayList<>());
    }

    private boolean follows(List<Integer> pairs, int i, List<Integer> open) {
        if (i == pairs.size() - 1) return true;
        int n = pairs.get(i) / 10, b = pairs.get(i) % 10;
        int m = pairs.get(i + 1) / 10, d = pairs.get(i + 1) % 10;
        for (int e = 0; e < x.count(2); e++) {
            int q = x.about(e, 2);
            if (x.about(e, 0) == n && x.about(e, 1) == m && (x.goes(e, 0, b) >> d & 1) == 1
                    && follows(pairs, i + 1, open)) return true;
            if (q >= 0 && x.about(e, 0) == n && 2 * q == m && (x.goes(e, 1, b) >> d & 1) == 1) {
                open.add(e);
                if (follows(pairs, i + 1, open)) return true;
                open.remove(open.size() - 1);
            }
            boolean own = !open.isEmpty() && open.get(open.size() - 1) == e;
            if (own && 2 * q + 1 == n && x.about(e, 1) == m && (x.goes(e, 2, b) >> d & 1) == 1) {
                open.remove(open.size() - 1);
                if (follows(pairs, i + 1, open)) return true;
                open.add(e);
            }
        }
        return false;
    }
}
