import java.util.Random;

/** Long runs of calls, chosen by fixed seeds, on MatchedFlows and on the Model side by side. */
public final class ModelTest {
    private static final int CALLS = 512;
    private static int wrong = 0;
    private static int largestTable = 0;
    private static int longestWitness = 0;

    private final int seed;
    private final Random random;
    private final MatchedFlows x = new MatchedFlows();
    private final Model model = new Model();
    private final StringBuilder log = new StringBuilder();
    private int left = CALLS;

    private ModelTest(int seed) {
        this.seed = seed;
        random = new Random(seed);
    }

    public static void main(String[] args) {
        int runs = args.length > 0 ? Integer.parseInt(args[0]) : 400;
        int first = args.length > 1 ? Integer.parseInt(args[1]) : 1;
        for (int seed = first; seed < first + runs && wrong == 0; seed++) new ModelTest(seed).run();
        System.out.println(wrong == 0 ? runs + " runs answer as the model does" : "the model answers otherwise");
        System.out.println("largest table " + largestTable + ", longest witness " + longestWitness);
        if (wrong != 0) System.exit(1);
    }

    private boolean due(String call, long got, long want) {
        log.append(call).append(" = ").append(got).append('\n');
        left--;
        if (got == want) return true;
        wrong++;
        left = 0;
        System.out.println("seed " + seed + ":\n" + log + "due is " + want);
        return false;
    }

    private void run() {
        // A program first, of a size that differs from seed to seed, so that tables of all sizes come.
        int built = random.nextInt(300);
        while (left > CALLS - built) build();
        for (int f = 0; f < 8 && seed % 5 == 0; f++) askAllWitness(f);
        while (left > 1) {
            int kind = random.nextInt(100);
            if (kind < 15) build();
            else if (kind < 80) ask();
            else if (kind < 90) typeText();
            else if (kind < 96) due("back()", x.back(), model.back());
            else due("digest()", x.digest(), model.digest());
        }
        if (left == 1) due("digest()", x.digest(), model.digest());
    }

    /** Mostly a number below most; seldom one that is beside it. */
    private int below(int most) {
        int odd = random.nextInt(60);
        if (odd == 0) return -1;
        if (odd == 1) return most;
        if (odd == 2) return random.nextInt();
        return random.nextInt(Math.max(1, most));
    }

    private int procs() { return model.program().procs; }
    private int nodes() { return model.program().nodes.size(); }
    private int edges() { return model.program().edges.size(); }
    private int aNode() { return below(nodes()); }

    /** Mostly a NODE of p of that kind or of none. */
    private int nodeOf(int p, int not) {
        for (int i = 0; i < 20; i++) {
            int n = random.nextInt(nodes());
            Model.Node node = model.program().nodes.get(n);
            if (node.proc() == p && node.kind() != not) return n;
        }
        return aNode();
    }

    private int facts(int a) {
        int v = random.nextInt(256) & random.nextInt(256);
        if (random.nextInt(3) == 0) v = random.nextInt(256);
        if (random.nextInt(40) == 0) return random.nextInt(600) - 100;
        // Where each fact goes to one alone, tables are small and witnesses long.
        if (seed % 2 == 0) v = 1 << random.nextInt(9);
        return a == 0 ? v & 255 | 1 : v & 254;
    }

    private void build() {
        int kind = random.nextInt(100);
        int p = random.nextInt(procs());
        int n = random.nextInt(12) == 0 ? aNode() : nodeOf(p, 1);
        int m = random.nextInt(12) == 0 ? aNode() : nodeOf(p, 0);
        int q = below(procs());
        int e = below(edges());
        int a = below(8);
        int v = facts(a);
        if (kind < 8) due("proc()", x.proc(), model.proc());
        else if (kind < 22) due("node(" + q + ")", x.node(q), model.node(q));
        else if (kind < 40) due("edge(" + n + ", " + m + ")", x.edge(n, m), model.edge(n, m));
        else if (kind < 58) due("call(" + n + ", " + q + ", " + m + ")", x.call(n, q, m), model.call(n, q, m));
        else if (kind < 90) setFlow(e, a, v);
        else if (kind < 95) due("starts(" + v + ")", x.starts(v), model.starts(v));
        else due("cuts(" + e + ")", x.cuts(e), model.cuts(e));
    }

    private void setFlow(int e, int a, int v) {
        int w = random.nextInt(30) == 0 ? random.nextInt(5) - 1 : random.nextInt(3);
        boolean call = e >= 0 && e < edges() && model.program().edges.get(e).q() != Model.NONE;
        // Nothing goes beside most calls, so that facts have to go through them.
        if (call && w == 0 && random.nextInt(4) > 0) v = a == 0 ? 1 : 0;
        due("flows(" + e + ", " + w + ", " + a + ", " + v + ")", x.flows(e, w, a, v), model.flows(e, w, a, v));
    }

    private void ask() {
        int n = aNode();
        int e = below(edges());
        int f = below(8);
        switch (random.nextInt(12)) {
            case 0 -> askNode(n);
            case 1 -> askEdge(e, f);
            case 2 -> { int w = below(6); due("count(" + w + ")", x.count(w), model.count(w)); }
            case 3 -> due("holds(" + n + ")", x.holds(n), model.holds(n));
            case 4 -> due("loose(" + n + ")", x.loose(n), model.loose(n));
            case 5 -> due("origins(" + n + ", " + f + ")", x.origins(n, f), model.origins(n, f));
            case 6, 7 -> due("summary(" + e + ", " + f + ")", x.summary(e, f), model.summary(e, f));
            case 8, 9 -> askEntries();
            case 10 -> askWitness(n, f);
            default -> { int w = below(5); due("told(" + w + ")", x.told(w), model.told(w)); }
        }
    }

    private void askNode(int n) {
        int w = below(2);
        due("at(" + n + ", " + w + ")", x.at(n, w), model.at(n, w));
    }

    private void askEdge(int e, int a) {
        int w = below(3);
        if (random.nextBoolean()) due("about(" + e + ", " + w + ")", x.about(e, w), model.about(e, w));
        else due("goes(" + e + ", " + w + ", " + a + ")", x.goes(e, w, a), model.goes(e, w, a));
    }

    private void askEntries() {
        largestTable = Math.max(largestTable, model.count(4));
        for (int k = 0; k < 5 && left > 1; k++) {
            int i = below(model.count(4));
            int w = below(4);
            due("entry(" + i + ", " + w + ")", x.entry(i, w), model.entry(i, w));
        }
    }

    private void askWitness(int n, int f) {
        if (!due("witness(" + n + ", " + f + ", -1)", x.witness(n, f, -1), model.witness(n, f, -1))) return;
        int many = Math.max(1, model.witness(Math.floorMod(n, nodes()), f & 7, -1));
        for (int k = 0; k < 6 && left > 1; k++) {
            int i = below(many);
            due("witness(" + n + ", " + f + ", " + i + ")", x.witness(n, f, i), model.witness(n, f, i));
        }
    }

    private void askAllWitness(int f) {
        int n = random.nextInt(nodes());
        int many = model.witness(n, f, -1);
        longestWitness = Math.max(longestWitness, many);
        for (int i = -1; i <= Math.min(many, 20) && left > 1; i++) {
            due("witness(" + n + ", " + f + ", " + i + ")", x.witness(n, f, i), model.witness(n, f, i));
        }
        for (int i = many - 5; i <= many && i > 20 && left > 1; i++) {
            due("witness(" + n + ", " + f + ", " + i + ")", x.witness(n, f, i), model.witness(n, f, i));
        }
    }

    private String number(int most) {
        String figures = Integer.toString(Math.max(0, random.nextInt(Math.max(1, most))));
        return random.nextInt(8) == 0 ? "0".repeat(random.nextInt(3)) + figures : figures;
    }

    private String blanks() { return random.nextInt(4) == 0 ? " ".repeat(random.nextInt(3)) : ""; }

    private String order() {
        int n = nodes() + 1;
        StringBuilder s = new StringBuilder();
        int[] most = switch (random.nextInt(9)) {
            case 0 -> { s.append('p'); yield new int[0]; }
            case 1 -> { s.append('n'); yield new int[] {procs()}; }
            case 2, 3 -> { s.append('e'); yield new int[] {n, n}; }
            case 4, 5 -> { s.append('c'); yield new int[] {n, procs(), n}; }
            case 6 -> { s.append('f'); yield new int[] {edges(), 2, 8, 256}; }
            case 7 -> { s.append('s'); yield new int[] {256}; }
            default -> { s.append('x'); yield new int[] {edges()}; }
        };
        for (int i = 0; i < most.length; i++) {
            s.append(blanks());
            if (i > 0) s.append(random.nextInt(40) == 0 ? "" : " ");
            s.append(number(most[i]));
        }
        return s.append(blanks()).append(';').append(blanks()).toString();
    }

    private void typeText() {
        if (random.nextInt(3) > 0) due("clear()", x.clear(), model.clear());
        StringBuilder s = new StringBuilder();
        int orders = random.nextInt(3) == 0 ? random.nextInt(30) : random.nextInt(4);
        for (int i = 0; i < orders; i++) s.append(order());
        if (s.length() > 0 && random.nextInt(3) == 0) s.setCharAt(random.nextInt(s.length()), oddByte());
        if (s.length() > 0 && random.nextInt(6) == 0) s.setLength(random.nextInt(s.length()));
        for (int i = 0; i < s.length() && left > 2; i++) {
            due("type(" + (int) s.charAt(i) + ")", x.type(s.charAt(i)), model.type(s.charAt(i)));
        }
        if (left > 1) due("does()", x.does(), model.does());
    }

    private char oddByte() {
        String some = "pnecfsx;; 0123456789";
        return random.nextInt(3) == 0 ? (char) random.nextInt(130) : some.charAt(random.nextInt(some.length()));
    }
}
