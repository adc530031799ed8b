import java.util.ArrayDeque;
import java.util.ArrayList;
import java.util.Collections;
import java.util.Deque;
import java.util.HashMap;
import java.util.LinkedHashMap;
import java.util.List;
import java.util.Map;
import java.util.TreeSet;
import java.util.regex.Matcher;
import java.util.regex.Pattern;

/** The document once more, word by word, with the library's collections and no thought of speed or room. */
final class Model {
    static final int NONE = -1, BAD = -2, NO = -3, FULL = -4;

    record Node(int proc, int kind) { }

    record Edge(int n, int m, int q, List<List<TreeSet<Integer>>> flows) {
        Edge copy() {
            List<List<TreeSet<Integer>>> same = new ArrayList<>();
            for (List<TreeSet<Integer>> flow : flows) {
                List<TreeSet<Integer>> row = new ArrayList<>();
                for (TreeSet<Integer> facts : flow) row.add(new TreeSet<>(facts));
                same.add(row);
            }
            return new Edge(n, m, q, same);
        }
        TreeSet<Integer> to(int w, int a) { return flows.get(w).get(a); }
    }

    record Entry(int p, int a, int n, int b) { }
    record Place(int p, int a) { }
    record Caller(Entry entry, Edge edge) { }
    record How(Entry y, Entry z) { }

    /** What a STATE holds. */
    static final class Program {
        int procs = 0;
        List<Node> nodes = new ArrayList<>();
        List<Edge> edges = new ArrayList<>();
        TreeSet<Integer> start = new TreeSet<>(List.of(0));

        Program copy() {
            Program same = new Program();
            same.procs = procs;
            same.nodes = new ArrayList<>(nodes);
            for (Edge e : edges) same.edges.add(e.copy());
            same.start = new TreeSet<>(start);
            return same;
        }

        int find(int p, int kind) {
            for (int n = 0; n < nodes.size(); n++) {
                if (nodes.get(n).equals(new Node(p, kind))) return n;
            }
            throw new IllegalStateException("no such PROC");
        }

        int proc() {
            if (procs == 5 || nodes.size() > 22) return FULL;
            nodes.add(new Node(procs, 0));
            nodes.add(new Node(procs, 1));
            return procs++;
        }

        int node(int p) {
            if (p < 0 || p >= procs) return BAD;
            if (nodes.size() == 24) return FULL;
            nodes.add(new Node(p, 2));
            return nodes.size() - 1;
        }

        boolean wrongEnds(int n, int m) {
            if (n < 0 || m < 0 || n >= nodes.size() || m >= nodes.size()) return true;
            Node from = nodes.get(n), to = nodes.get(m);
            return from.proc() != to.proc() || from.kind() == 1 || to.kind() == 0;
        }

        int add(int n, int q, int m) {
            if (edges.size() == 32) return FULL;
            List<List<TreeSet<Integer>>> flows = new ArrayList<>();
            for (int w = 0; w < (q == NONE ? 1 : 3); w++) {
                List<TreeSet<Integer>> flow = new ArrayList<>();
                for (int a = 0; a < 8; a++) flow.add(new TreeSet<>(List.of(a)));
                flows.add(flow);
            }
            edges.add(new Edge(n, m, q, flows));
            return edges.size() - 1;
        }

        int edge(int n, int m) { return wrongEnds(n, m) ? BAD : add(n, NONE, m); }

        int call(int n, int q, int m) {
            return wrongEnds(n, m) || q < 0 || q >= procs ? BAD : add(n, q, m);
        }

        int flows(int e, int w, int a, int v) {
            if (e < 0 || e >= edges.size() || w < 0 || w >= edges.get(e).flows().size()) return BAD;
            if (a < 0 || a > 7 || v < 0 || v > 255) return BAD;
            if (set(v).contains(0) != (a == 0)) return BAD;
            return bits(edges.get(e).flows().get(w).set(a, set(v)));
        }

        int starts(int v) {
            if (v < 0 || v > 255 || v % 2 == 0) return BAD;
            int was = bits(start);
            start = set(v);
            return was;
        }

        int cuts(int e) {
            if (e < 0 || e >= edges.size()) return BAD;
            edges.remove(e);
            return edges.size();
        }
    }

    /** THE TABLE, with how each ENTRY came first. */
    static final class Table {
        final Program program;
        final Map<Entry, How> in = new LinkedHashMap<>();
        final List<Entry> row = new ArrayList<>();
        final Map<Place, List<Caller>> callers = new HashMap<>();
        final Map<Entry, List<Integer>> inners = new HashMap<>();
        final Map<Entry, List<Integer>> ways = new HashMap<>();

        Table(Program program, int p, Iterable<Integer> facts) {
            this.program = program;
            for (int a : facts) comes(new Entry(p, a, program.find(p, 0), a), null, null);
            for (int i = 0; i < row.size(); i++) take(row.get(i));
        }

        void comes(Entry x, Entry y, Entry z) {
            if (in.putIfAbsent(x, new How(y, z)) == null) row.add(x);
        }

        void take(Entry x) {
            if (program.nodes.get(x.n()).kind() == 1) {
                for (Caller c : callers.getOrDefault(new Place(x.p(), x.a()), List.of())) {
                    Entry y = c.entry();
                    for (int d : c.edge().to(2, x.b())) comes(new Entry(y.p(), y.a(), c.edge().m(), d), y, x);
                }
                return;
            }
            for (Edge edge : program.edges) {
                if (edge.n() != x.n()) continue;
                if (edge.q() != NONE) takeCall(x, edge);
                for (int d : edge.to(0, x.b())) comes(new Entry(x.p(), x.a(), edge.m(), d), x, null);
            }
        }

        void takeCall(Entry x, Edge edge) {
            int q = edge.q();
            for (int c : edge.to(1, x.b())) {
                comes(new Entry(q, c, program.find(q, 0), c), x, null);
                callers.computeIfAbsent(new Place(q, c), k -> new ArrayList<>()).add(new Caller(x, edge));
                for (int e = 0; e < 8; e++) {
                    Entry z = new Entry(q, c, program.find(q, 1), e);
                    if (!in.containsKey(z)) continue;
                    for (int d : edge.to(2, e)) comes(new Entry(x.p(), x.a(), edge.m(), d), x, z);
                }
            }
        }

        TreeSet<Integer> holds(int n) {
            TreeSet<Integer> facts = new TreeSet<>();
            for (Entry x : row) if (x.n() == n) facts.add(x.b());
            return facts;
        }

        List<Integer> inner(Entry x) {
            List<Integer> known = inners.get(x);
            if (known != null) return known;
            List<Integer> pairs = new ArrayList<>();
            if (program.nodes.get(x.n()).kind() != 0 || x.a() != x.b()) {
                How how = in.get(x);
                pairs.addAll(inner(how.y()));
                if (how.z() != null) pairs.addAll(inner(how.z()));
            }
            return kept(inners, x, pairs);
        }

        List<Integer> way(Entry x) {
            List<Integer> known = ways.get(x);
            if (known != null) return known;
            List<Integer> pairs = new ArrayList<>();
            How how = in.get(x);
            if (how.y() != null) pairs.addAll(way(how.y()));
            if (how.z() != null) pairs.addAll(inner(how.z()));
            return kept(ways, x, pairs);
        }

        List<Integer> kept(Map<Entry, List<Integer>> where, Entry x, List<Integer> pairs) {
            pairs.add(10 * x.n() + x.b());
            if (pairs.size() > 1000) pairs = new ArrayList<>(pairs.subList(0, 1000));
            where.put(x, pairs);
            return pairs;
        }

        List<Integer> witness(int n, int f) {
            for (Entry x : row) if (x.n() == n && x.b() == f) return way(x);
            return null;
        }
    }

    private static final String NUM = "[0-9]{1,3}";
    private static final Pattern TEXT = Pattern.compile(" *(?:(?:p|[nsx] *" + NUM + "|e *" + NUM + " +" + NUM
            + "|c *" + NUM + "(?: +" + NUM + "){2}|f *" + NUM + "(?: +" + NUM + "){3}) *; *)+");

    private Program now = new Program();
    private final Deque<Program> states = new ArrayDeque<>();
    private final StringBuilder text = new StringBuilder();
    private final int[] refused = new int[3];
    private Table table = null;

    Model() { now.proc(); }

    static TreeSet<Integer> set(int v) {
        TreeSet<Integer> facts = new TreeSet<>();
        for (int f = 0; f < 8; f++) if ((v & 1 << f) != 0) facts.add(f);
        return facts;
    }

    static int bits(Iterable<Integer> facts) {
        int v = 0;
        for (int f : facts) v += 1 << f;
        return v;
    }

    private int refuse(int why) {
        refused[-2 - why]++;
        return why;
    }

    private int settle(Program draft, int answer) {
        if (answer < 0) return refuse(answer);
        states.addLast(now);
        if (states.size() > 5) states.removeFirst();
        now = draft;
        table = null;
        return answer;
    }

    private Table table() {
        if (table == null) table = new Table(now, 0, now.start);
        return table;
    }

    private boolean node(int n, int f) { return n >= 0 && n < now.nodes.size() && f >= 0 && f < 8; }
    private boolean edge(int e) { return e >= 0 && e < now.edges.size(); }
    private static boolean within(int x, int most) { return x >= 0 && x <= most; }

    int proc() { Program d = now.copy(); return settle(d, d.proc()); }
    int node(int p) { Program d = now.copy(); return settle(d, d.node(p)); }
    int edge(int n, int m) { Program d = now.copy(); return settle(d, d.edge(n, m)); }
    int call(int n, int q, int m) { Program d = now.copy(); return settle(d, d.call(n, q, m)); }
    int flows(int e, int w, int a, int v) { Program d = now.copy(); return settle(d, d.flows(e, w, a, v)); }
    int starts(int v) { Program d = now.copy(); return settle(d, d.starts(v)); }
    int cuts(int e) { Program d = now.copy(); return settle(d, d.cuts(e)); }

    int at(int n, int what) {
        if (!node(n, 0) || !within(what, 1)) return refuse(BAD);
        return what == 0 ? now.nodes.get(n).proc() : now.nodes.get(n).kind();
    }

    int about(int e, int what) {
        if (!edge(e) || !within(what, 2)) return refuse(BAD);
        Edge x = now.edges.get(e);
        return what == 0 ? x.n() : what == 1 ? x.m() : x.q();
    }

    int goes(int e, int w, int a) {
        if (!edge(e) || !within(w, now.edges.get(e).flows().size() - 1) || !within(a, 7)) return refuse(BAD);
        return bits(now.edges.get(e).to(w, a));
    }

    int count(int what) {
        if (!within(what, 5)) return refuse(BAD);
        if (what == 0) return now.procs;
        if (what == 1) return now.nodes.size();
        if (what == 2) return now.edges.size();
        if (what == 3) return bits(now.start);
        if (what == 4) return table().row.size();
        int found = 0;
        for (int n = 0; n < now.nodes.size(); n++) if (table().holds(n).contains(0)) found++;
        return found;
    }

    int holds(int n) { return node(n, 0) ? bits(table().holds(n)) : refuse(BAD); }

    int loose(int n) {
        if (!node(n, 0)) return refuse(BAD);
        List<TreeSet<Integer>> at = new ArrayList<>();
        for (int i = 0; i < now.nodes.size(); i++) at.add(new TreeSet<>());
        for (int a : now.start) spread(at, now.find(0, 0), a);
        return bits(at.get(n));
    }

    private void spread(List<TreeSet<Integer>> at, int n, int f) {
        if (!at.get(n).add(f)) return;
        for (Edge e : now.edges) {
            if (e.n() == n) {
                for (int d : e.to(0, f)) spread(at, e.m(), d);
                if (e.q() != NONE) for (int d : e.to(1, f)) spread(at, now.find(e.q(), 0), d);
            }
            if (e.q() != NONE && now.find(e.q(), 1) == n) for (int d : e.to(2, f)) spread(at, e.m(), d);
        }
    }

    int origins(int n, int f) {
        if (!node(n, f)) return refuse(BAD);
        TreeSet<Integer> found = new TreeSet<>();
        for (int a = 0; a < 8; a++) if (new Table(now, 0, List.of(a)).holds(n).contains(f)) found.add(a);
        return bits(found);
    }

    int summary(int e, int b) {
        if (!edge(e) || !within(b, 7)) return refuse(BAD);
        Edge call = now.edges.get(e);
        if (call.q() == NONE) return refuse(NO);
        Table filled = new Table(now, call.q(), call.to(1, b));
        TreeSet<Integer> found = new TreeSet<>();
        for (Entry x : filled.row) {
            boolean out = x.n() == now.find(call.q(), 1) && call.to(1, b).contains(x.a());
            if (out) found.addAll(call.to(2, x.b()));
        }
        return bits(found);
    }

    int entry(int i, int what) {
        if (i < 0 || !within(what, 3)) return refuse(BAD);
        if (i >= table().row.size()) return NONE;
        Entry x = table().row.get(i);
        return what == 0 ? x.p() : what == 1 ? x.a() : what == 2 ? x.n() : x.b();
    }

    int witness(int n, int f, int i) {
        if (!node(n, f) || i < -1) return refuse(BAD);
        List<Integer> pairs = table().witness(n, f);
        if (pairs == null) return NONE;
        if (i == -1) return pairs.size();
        return i < pairs.size() ? pairs.get(i) : NONE;
    }

    /** The WITNESS whole, for the tests that replay it. */
    List<Integer> pairs(int n, int f) {
        List<Integer> pairs = table().witness(n, f);
        return pairs == null ? Collections.emptyList() : pairs;
    }

    Program program() { return now; }

    int type(int c) {
        if (!within(c, 127)) return refuse(BAD);
        if (text.length() == 120) return refuse(FULL);
        text.append((char) c);
        return text.length();
    }

    int clear() {
        int had = text.length();
        text.setLength(0);
        return had;
    }

    /** The first byte with which no right text can begin; the length, if it ends too early; NONE. */
    private int fault() {
        for (int i = 1; i <= text.length(); i++) {
            Matcher m = TEXT.matcher(text.substring(0, i));
            if (!m.matches() && !m.hitEnd()) return i - 1;
        }
        return TEXT.matcher(text).matches() ? NONE : text.length();
    }

    int does() {
        int fault = fault();
        if (fault != NONE) return -10 - fault;
        Program draft = now.copy();
        String[] orders = text.toString().split(";");
        int done = 0;
        for (String order : orders) {
            if (order.isBlank()) continue;
            if (obey(draft, order.trim()) < 0) return -1000 - done;
            done++;
        }
        return settle(draft, done);
    }

    private static int obey(Program draft, String order) {
        String rest = order.substring(1).trim();
        String[] words = rest.isEmpty() ? new String[0] : rest.split(" +");
        int[] v = new int[4];
        for (int i = 0; i < words.length; i++) v[i] = Integer.parseInt(words[i]);
        return switch (order.charAt(0)) {
            case 'p' -> draft.proc();
            case 'n' -> draft.node(v[0]);
            case 'e' -> draft.edge(v[0], v[1]);
            case 'c' -> draft.call(v[0], v[1], v[2]);
            case 'f' -> draft.flows(v[0], v[1], v[2], v[3]);
            case 's' -> draft.starts(v[0]);
            case 'x' -> draft.cuts(v[0]);
            default -> throw new IllegalStateException(order);
        };
    }

    int back() {
        if (states.isEmpty()) return refuse(NO);
        now = states.removeLast();
        table = null;
        return states.size();
    }

    int told(int what) {
        if (!within(what, 4)) return refuse(BAD);
        return what < 3 ? refused[what] : what == 3 ? text.length() : states.size();
    }

    long digest() {
        long h = 1807;
        for (int i = 0; i <= 4; i++) h = 31 * h + told(i);
        for (int i = 0; i <= 5; i++) h = 31 * h + count(i);
        for (int n = 0; n < now.nodes.size(); n++) {
            for (int v : new int[] {at(n, 0), at(n, 1), holds(n), loose(n)}) h = 31 * h + v;
        }
        for (int e = 0; e < now.edges.size(); e++) {
            for (int i = 0; i <= 2; i++) h = 31 * h + about(e, i);
            for (int w = 0; w < (about(e, 2) == NONE ? 1 : 3); w++) {
                for (int a = 0; a < 8; a++) h = 31 * h + goes(e, w, a);
            }
        }
        return h;
    }
}
