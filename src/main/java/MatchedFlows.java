/**
 * Facts that flow through procedures, along paths on which each return goes back to its own call.
 * The words in capitals are those of the document (DOC.md).
 */
public final class MatchedFlows {
    public static final int NONE = -1, BAD = -2, NO = -3, FULL = -4;

    private static final int MAX_PROCS = 5;
    private static final int MAX_NODES = 24;
    private static final int MAX_EDGES = 32;
    private static final int MAX_STATES = 5;
    private static final int MAX_TEXT = 120;
    private static final int MAX_PAIRS = 1000;

    private static final int FACTS = 8;
    private static final int ALL_FACTS = 255;

    private static final int BESIDE = 0;
    private static final int IN = 1;
    private static final int OUT = 2;
    private static final int FLOWS = 3;

    private static final int ENTRY = 0;
    private static final int EXIT = 1;
    private static final int ANOTHER = 2;

    /** The STATES, the program of now, and one more to try a change on, so that a refused change costs no STATE. */
    private static final int ROWS = MAX_STATES + 2;

    private final Program[] rows = new Program[ROWS];
    private int now = 0;
    private int states = 0;

    private final Table table = new Table();
    private final Spread spread = new Spread();
    private final Text text = new Text();

    private int timesBad = 0;
    private int timesNo = 0;
    private int timesFull = 0;

    public MatchedFlows() {
        for (int i = 0; i < ROWS; i++) {
            rows[i] = new Program();
        }
        rows[now].addProc();
    }

    // ---- a program

    public int proc() {
        return settled(draft().addProc());
    }

    public int node(int p) {
        return settled(draft().addNode(p));
    }

    public int edge(int n, int m) {
        return settled(draft().addPlain(n, m));
    }

    public int call(int n, int q, int m) {
        return settled(draft().addCall(n, q, m));
    }

    public int flows(int e, int w, int a, int v) {
        return settled(draft().setFlow(e, w, a, v));
    }

    public int starts(int v) {
        return settled(draft().setStart(v));
    }

    public int cuts(int e) {
        return settled(draft().cutEdge(e));
    }

    // ---- what is told of it

    public int at(int n, int what) {
        Program program = rows[now];
        if (!program.isNode(n) || what < 0 || what > 1) {
            return refused(BAD);
        }
        return what == 0 ? program.procOf[n] : program.kindOf[n];
    }

    public int about(int e, int what) {
        Program program = rows[now];
        if (!program.isEdge(e) || what < 0 || what > 2) {
            return refused(BAD);
        }
        return partOfEdge(program, e, what);
    }

    public int goes(int e, int w, int a) {
        Program program = rows[now];
        if (!program.hasFlow(e, w) || !isFact(a)) {
            return refused(BAD);
        }
        return program.reach(e, w, a);
    }

    public int count(int what) {
        if (what < 0 || what > 5) {
            return refused(BAD);
        }
        Program program = rows[now];
        if (what >= 4) {
            table.fill(program, 0, program.start);
        }
        return counted(program, what);
    }

    // ---- what holds

    public int holds(int n) {
        Program program = rows[now];
        if (!program.isNode(n)) {
            return refused(BAD);
        }
        table.fill(program, 0, program.start);
        return table.factsAt(n);
    }

    public int loose(int n) {
        Program program = rows[now];
        if (!program.isNode(n)) {
            return refused(BAD);
        }
        spread.fill(program);
        return spread.reached[n];
    }

    public int origins(int n, int f) {
        Program program = rows[now];
        if (!program.isNode(n) || !isFact(f)) {
            return refused(BAD);
        }
        int found = 0;
        for (int a = 0; a < FACTS; a++) {
            table.fill(program, 0, 1 << a);
            if (has(table.factsAt(n), f)) {
                found |= 1 << a;
            }
        }
        return found;
    }

    public int summary(int e, int b) {
        Program program = rows[now];
        if (!program.isEdge(e) || !isFact(b)) {
            return refused(BAD);
        }
        int q = program.callee[e];
        if (q == NONE) {
            return refused(NO);
        }
        int ins = program.reach(e, IN, b);
        table.fill(program, q, ins);
        int found = 0;
        for (int c = 0; c < FACTS; c++) {
            if (has(ins, c)) {
                found |= program.carry(e, OUT, table.seen[cell(program.exitOf[q], c)]);
            }
        }
        return found;
    }

    public int entry(int i, int what) {
        if (i < 0 || what < 0 || what > 3) {
            return refused(BAD);
        }
        Program program = rows[now];
        table.fill(program, 0, program.start);
        return i < table.size ? partOfEntry(program, i, what) : NONE;
    }

    public int witness(int n, int f, int i) {
        Program program = rows[now];
        if (!program.isNode(n) || !isFact(f) || i < NONE) {
            return refused(BAD);
        }
        table.fill(program, 0, program.start);
        int first = table.firstWith(n, f);
        if (first == NONE) {
            return NONE;
        }
        if (i == NONE) {
            return table.way[first];
        }
        return i < table.way[first] ? table.pairOfWay(first, i) : NONE;
    }

    // ---- texts

    public int type(int c) {
        if (c < 0 || c > 127) {
            return refused(BAD);
        }
        return text.append(c) ? text.length : refused(FULL);
    }

    public int clear() {
        int had = text.length;
        text.length = 0;
        return had;
    }

    public int does() {
        int fault = text.read();
        if (fault != NONE) {
            return -10 - fault;
        }
        Program draft = draft();
        for (int i = 0; i < text.orders; i++) {
            if (obeyed(draft, i) < 0) {
                return -1000 - i;
            }
        }
        return settled(text.orders);
    }

    public int back() {
        if (states == 0) {
            return refused(NO);
        }
        states--;
        moveTo((now + ROWS - 1) % ROWS);
        return states;
    }

    public int told(int what) {
        if (what < 0 || what > 4) {
            return refused(BAD);
        }
        return tally(what);
    }

    public long digest() {
        Program program = rows[now];
        table.fill(program, 0, program.start);
        spread.fill(program);
        long h = 1807;
        for (int what = 0; what <= 4; what++) {
            h = 31 * h + tally(what);
        }
        for (int what = 0; what <= 5; what++) {
            h = 31 * h + counted(program, what);
        }
        return digestOfEdges(program, digestOfNodes(program, h));
    }

    // ---- inside

    private static boolean isFact(int f) {
        return f >= 0 && f < FACTS;
    }

    private static boolean isFacts(int v) {
        return v >= 0 && v <= ALL_FACTS;
    }

    private static boolean has(int facts, int f) {
        return (facts >> f & 1) != 0;
    }

    /** Where THE TABLE keeps the FACTS at NODE n that came of FACT a at the ENTRY. */
    private static int cell(int n, int a) {
        return n * FACTS + a;
    }

    /** Every change is tried on a copy behind the program of now; it counts only when settled. */
    private Program draft() {
        Program draft = rows[(now + 1) % ROWS];
        draft.copy(rows[now]);
        return draft;
    }

    private int settled(int answer) {
        if (answer < 0) {
            return refused(answer);
        }
        states = Math.min(states + 1, MAX_STATES);
        moveTo((now + 1) % ROWS);
        return answer;
    }

    private void moveTo(int row) {
        now = row;
        table.ready = false;
        spread.ready = false;
    }

    private int refused(int why) {
        if (why == BAD) {
            timesBad++;
        } else if (why == NO) {
            timesNo++;
        } else {
            timesFull++;
        }
        return why;
    }

    private int partOfEdge(Program program, int e, int what) {
        switch (what) {
            case 0:
                return program.from[e];
            case 1:
                return program.to[e];
            default:
                return program.callee[e];
        }
    }

    private int partOfEntry(Program program, int i, int what) {
        switch (what) {
            case 0:
                return program.procOf[table.nodeOf(i)];
            case 1:
                return table.factAtEntry(i);
            case 2:
                return table.nodeOf(i);
            default:
                return table.factOf(i);
        }
    }

    /** What is counted of THE TABLE (4 and 5) needs it filled. */
    private int counted(Program program, int what) {
        switch (what) {
            case 0:
                return program.procs;
            case 1:
                return program.nodes;
            case 2:
                return program.edges;
            case 3:
                return program.start;
            case 4:
                return table.size;
            default:
                return nodesReached(program);
        }
    }

    private int nodesReached(Program program) {
        int found = 0;
        for (int n = 0; n < program.nodes; n++) {
            found += table.factsAt(n) & 1;
        }
        return found;
    }

    private int tally(int what) {
        switch (what) {
            case 0:
                return timesBad;
            case 1:
                return timesNo;
            case 2:
                return timesFull;
            case 3:
                return text.length;
            default:
                return states;
        }
    }

    private int obeyed(Program draft, int order) {
        int first = text.part(order, 1);
        int second = text.part(order, 2);
        int third = text.part(order, 3);
        switch (text.part(order, 0)) {
            case 'p':
                return draft.addProc();
            case 'n':
                return draft.addNode(first);
            case 'e':
                return draft.addPlain(first, second);
            case 'c':
                return draft.addCall(first, second, third);
            case 'f':
                return draft.setFlow(first, second, third, text.part(order, 4));
            case 's':
                return draft.setStart(first);
            default:
                return draft.cutEdge(first);
        }
    }

    private long digestOfNodes(Program program, long before) {
        long h = before;
        for (int n = 0; n < program.nodes; n++) {
            h = 31 * h + program.procOf[n];
            h = 31 * h + program.kindOf[n];
            h = 31 * h + table.factsAt(n);
            h = 31 * h + spread.reached[n];
        }
        return h;
    }

    private long digestOfEdges(Program program, long before) {
        long h = before;
        for (int e = 0; e < program.edges; e++) {
            for (int what = 0; what <= 2; what++) {
                h = 31 * h + partOfEdge(program, e, what);
            }
            int flows = program.flowsOf(e);
            for (int i = 0; i < flows * FACTS; i++) {
                h = 31 * h + program.reach(e, i / FACTS, i % FACTS);
            }
        }
        return h;
    }

    /** PROCS, NODES, EDGES and START: all that a STATE holds. Its changes answer as the calls do, and refuse first. */
    private static final class Program {
        /** Each FACT goes to itself alone: byte a of a FLOW holds the FACTS to which FACT a goes. */
        private static final long PLAIN_FLOW = 0x8040201008040201L;

        int procs = 0;
        int nodes = 0;
        int edges = 0;
        int start = 1;
        final int[] entryOf = new int[MAX_PROCS];
        final int[] exitOf = new int[MAX_PROCS];
        final int[] procOf = new int[MAX_NODES];
        final int[] kindOf = new int[MAX_NODES];
        final int[] from = new int[MAX_EDGES];
        final int[] to = new int[MAX_EDGES];
        final int[] callee = new int[MAX_EDGES];
        final long[] flow = new long[MAX_EDGES * FLOWS];

        void copy(Program other) {
            procs = other.procs;
            nodes = other.nodes;
            edges = other.edges;
            start = other.start;
            System.arraycopy(other.entryOf, 0, entryOf, 0, procs);
            System.arraycopy(other.exitOf, 0, exitOf, 0, procs);
            System.arraycopy(other.procOf, 0, procOf, 0, nodes);
            System.arraycopy(other.kindOf, 0, kindOf, 0, nodes);
            System.arraycopy(other.from, 0, from, 0, edges);
            System.arraycopy(other.to, 0, to, 0, edges);
            System.arraycopy(other.callee, 0, callee, 0, edges);
            System.arraycopy(other.flow, 0, flow, 0, edges * FLOWS);
        }

        boolean isProc(int p) {
            return p >= 0 && p < procs;
        }

        boolean isNode(int n) {
            return n >= 0 && n < nodes;
        }

        boolean isEdge(int e) {
            return e >= 0 && e < edges;
        }

        /** Whether an EDGE may begin at n and end at m. */
        boolean joins(int n, int m) {
            return isNode(n) && isNode(m) && procOf[n] == procOf[m]
                    && kindOf[n] != EXIT && kindOf[m] != ENTRY;
        }

        int flowsOf(int e) {
            return callee[e] == NONE ? 1 : FLOWS;
        }

        boolean hasFlow(int e, int w) {
            return isEdge(e) && w >= 0 && w < flowsOf(e);
        }

        int reach(int e, int w, int a) {
            return (int) (flow[e * FLOWS + w] >>> a * FACTS) & ALL_FACTS;
        }

        int carry(int e, int w, int facts) {
            int found = 0;
            for (int a = 0; a < FACTS; a++) {
                if (has(facts, a)) {
                    found |= reach(e, w, a);
                }
            }
            return found;
        }

        int addProc() {
            if (procs >= MAX_PROCS || nodes + 2 > MAX_NODES) {
                return FULL;
            }
            entryOf[procs] = nodes;
            placeNode(procs, ENTRY);
            exitOf[procs] = nodes;
            placeNode(procs, EXIT);
            return procs++;
        }

        int addNode(int p) {
            if (!isProc(p)) {
                return BAD;
            }
            if (nodes >= MAX_NODES) {
                return FULL;
            }
            return placeNode(p, ANOTHER);
        }

        private int placeNode(int p, int kind) {
            procOf[nodes] = p;
            kindOf[nodes] = kind;
            return nodes++;
        }

        int addPlain(int n, int m) {
            return joins(n, m) ? addEdge(n, NONE, m) : BAD;
        }

        int addCall(int n, int q, int m) {
            return isProc(q) && joins(n, m) ? addEdge(n, q, m) : BAD;
        }

        private int addEdge(int n, int q, int m) {
            if (edges >= MAX_EDGES) {
                return FULL;
            }
            from[edges] = n;
            to[edges] = m;
            callee[edges] = q;
            for (int w = 0; w < FLOWS; w++) {
                flow[edges * FLOWS + w] = PLAIN_FLOW;
            }
            return edges++;
        }

        int setFlow(int e, int w, int a, int v) {
            if (!hasFlow(e, w) || !isFact(a) || !isFacts(v) || has(v, 0) != (a == 0)) {
                return BAD;
            }
            int was = reach(e, w, a);
            int shift = a * FACTS;
            long others = flow[e * FLOWS + w] & ~((long) ALL_FACTS << shift);
            flow[e * FLOWS + w] = others | (long) v << shift;
            return was;
        }

        int setStart(int v) {
            if (!isFacts(v) || !has(v, 0)) {
                return BAD;
            }
            int was = start;
            start = v;
            return was;
        }

        int cutEdge(int e) {
            if (!isEdge(e)) {
                return BAD;
            }
            edges--;
            for (int i = e; i < edges; i++) {
                from[i] = from[i + 1];
                to[i] = to[i + 1];
                callee[i] = callee[i + 1];
                for (int w = 0; w < FLOWS; w++) {
                    flow[i * FLOWS + w] = flow[(i + 1) * FLOWS + w];
                }
            }
            return edges;
        }
    }

    /**
     * THE TABLE, filled from chosen FACTS at the ENTRY of one PROC. An ENTRY (p, a, n, b) is a key,
     * (n * 8 + a) * 8 + b, as n has but one PROC.
     */
    private static final class Table {
        private static final int CELLS = MAX_NODES * FACTS;
        private static final int MOST = CELLS * FACTS;
        private static final int MOST_SITES = MAX_EDGES * FACTS * FACTS;

        boolean ready = false;
        private int seedProc = 0;
        private int seedFacts = 0;

        int size = 0;
        /** For each cell (n, a) the FACTS b that came. */
        final int[] seen = new int[CELLS];
        private final int[] keys = new int[MOST];
        private final int[] placeOf = new int[MOST];
        /** How each came first: by the one TAKEN or the CALLER (NONE: as a first one), by OUT through the one at the EXIT. */
        private final int[] before = new int[MOST];
        private final int[] through = new int[MOST];
        /** How many PAIRS the WAY and the INNER of each have, 1000 at most. */
        final int[] way = new int[MOST];
        private final int[] inner = new int[MOST];
        /** Each CALL of each ENTRY that was TAKEN, in that order. */
        private final int[] sites = new int[MOST_SITES];
        private int siteCount = 0;

        void fill(Program program, int proc, int facts) {
            if (ready && seedProc == proc && seedFacts == facts) {
                return;
            }
            ready = true;
            seedProc = proc;
            seedFacts = facts;
            size = 0;
            siteCount = 0;
            for (int i = 0; i < CELLS; i++) {
                seen[i] = 0;
            }
            for (int a = 0; a < FACTS; a++) {
                if (has(facts, a)) {
                    come(program, cell(program.entryOf[proc], a), 1 << a, NONE, NONE);
                }
            }
            for (int x = 0; x < size && x < MOST; x++) {
                take(program, x);
            }
        }

        int factsAt(int n) {
            int found = 0;
            for (int a = 0; a < FACTS; a++) {
                found |= seen[cell(n, a)];
            }
            return found;
        }

        int nodeOf(int x) {
            return keys[x] / (FACTS * FACTS);
        }

        int factAtEntry(int x) {
            return keys[x] / FACTS % FACTS;
        }

        int factOf(int x) {
            return keys[x] % FACTS;
        }

        int firstWith(int n, int f) {
            int first = NONE;
            for (int a = 0; a < FACTS; a++) {
                if (has(seen[cell(n, a)], f)) {
                    int place = placeOf[cell(n, a) * FACTS + f];
                    first = first == NONE ? place : Math.min(first, place);
                }
            }
            return first;
        }

        /**
         * The i-th PAIR of the WAY of x, i below way[x]. Each row is told by its parts' lengths, so that
         * one walk down finds the PAIR, however often the same INNER stands in it.
         */
        int pairOfWay(int x, int i) {
            int y = x;
            int left = i;
            int[] lengths = way;
            for (int step = 0; step < MOST && lengths[y] > 1 && before[y] != NONE; step++) {
                int ahead = lengths[before[y]];
                int z = through[y];
                if (left < ahead) {
                    y = before[y];
                } else if (z != NONE && left - ahead < inner[z]) {
                    left -= ahead;
                    y = z;
                    lengths = inner;
                } else {
                    break;
                }
            }
            return 10 * nodeOf(y) + factOf(y);
        }

        private void take(Program program, int x) {
            int n = nodeOf(x);
            if (program.kindOf[n] == EXIT) {
                returnToCallers(program, x);
                return;
            }
            for (int e = 0; e < program.edges; e++) {
                if (program.from[e] == n) {
                    if (program.callee[e] != NONE) {
                        enter(program, x, e);
                    }
                    come(program, landing(program, x, e), program.reach(e, BESIDE, factOf(x)), x, NONE);
                }
            }
        }

        /** The cell to which EDGE e leads ENTRY x. */
        private int landing(Program program, int x, int e) {
            return cell(program.to[e], factAtEntry(x));
        }

        private void enter(Program program, int x, int e) {
            noteSite(x, e);
            int ins = program.reach(e, IN, factOf(x));
            int q = program.callee[e];
            for (int c = 0; c < FACTS; c++) {
                if (has(ins, c)) {
                    come(program, cell(program.entryOf[q], c), 1 << c, x, NONE);
                    leaveAsKnown(program, x, e, cell(program.exitOf[q], c));
                }
            }
        }

        private void noteSite(int x, int e) {
            if (siteCount < MOST_SITES) {
                sites[siteCount] = x * MAX_EDGES + e;
                siteCount++;
            }
        }

        /** Looks at the cell anew for each FACT: in a PROC that calls itself, what comes may come to this very cell. */
        private void leaveAsKnown(Program program, int x, int e, int exitCell) {
            for (int f = 0; f < FACTS; f++) {
                if (has(seen[exitCell], f)) {
                    int z = placeOf[exitCell * FACTS + f];
                    come(program, landing(program, x, e), program.reach(e, OUT, f), x, z);
                }
            }
        }

        /** Sites stand in the order in which CALLERS are noted; one is a CALLER of (p, a) if it calls p and its IN gives a. */
        private void returnToCallers(Program program, int z) {
            int p = program.procOf[nodeOf(z)];
            int a = factAtEntry(z);
            for (int i = 0; i < siteCount; i++) {
                int y = sites[i] / MAX_EDGES;
                int e = sites[i] % MAX_EDGES;
                if (program.callee[e] == p && has(program.reach(e, IN, factOf(y)), a)) {
                    come(program, landing(program, y, e), program.reach(e, OUT, factOf(z)), y, z);
                }
            }
        }

        private void come(Program program, int cell, int facts, int y, int z) {
            int fresh = facts & ~seen[cell];
            if (fresh == 0) {
                return;
            }
            boolean first = y == NONE;
            boolean begins = first || program.kindOf[cell / FACTS] == ENTRY;
            int within = 1 + (z == NONE ? 0 : inner[z]);
            int wayLength = first ? 1 : Math.min(way[y] + within, MAX_PAIRS);
            int innerLength = begins ? 1 : Math.min(inner[y] + within, MAX_PAIRS);
            seen[cell] |= fresh;
            for (int b = 0; b < FACTS; b++) {
                if (has(fresh, b) && size < MOST) {
                    keys[size] = cell * FACTS + b;
                    placeOf[cell * FACTS + b] = size;
                    before[size] = y;
                    through[size] = z;
                    way[size] = wayLength;
                    inner[size] = innerLength;
                    size++;
                }
            }
        }
    }

    /** LOOSE: for each NODE the FACTS that come there by any row of steps. */
    private static final class Spread {
        boolean ready = false;
        final int[] reached = new int[MAX_NODES];

        void fill(Program program) {
            if (ready) {
                return;
            }
            ready = true;
            for (int n = 0; n < MAX_NODES; n++) {
                reached[n] = 0;
            }
            reached[program.entryOf[0]] = program.start;
            boolean grew = true;
            // Each round but the last brings a FACT to a NODE.
            for (int round = 0; grew && round <= MAX_NODES * FACTS; round++) {
                grew = false;
                for (int e = 0; e < program.edges; e++) {
                    grew |= stepAlong(program, e);
                }
            }
        }

        private boolean stepAlong(Program program, int e) {
            int n = program.from[e];
            int m = program.to[e];
            int q = program.callee[e];
            boolean grew = addTo(m, program.carry(e, BESIDE, reached[n]));
            if (q != NONE) {
                grew |= addTo(program.entryOf[q], program.carry(e, IN, reached[n]));
                grew |= addTo(m, program.carry(e, OUT, reached[program.exitOf[q]]));
            }
            return grew;
        }

        private boolean addTo(int n, int facts) {
            int was = reached[n];
            reached[n] = was | facts;
            return reached[n] != was;
        }
    }

    /** THE TEXT, and the ORDERS that were read of it. */
    private static final class Text {
        /** The shortest ORDER has two bytes. */
        private static final int MOST_ORDERS = MAX_TEXT / 2;
        /** A letter and up to four numbers. */
        private static final int PARTS = 5;
        private static final int MOST_FIGURES = 3;

        int length = 0;
        int orders = 0;
        private final int[] bytes = new int[MAX_TEXT];
        private final int[] parts = new int[MOST_ORDERS * PARTS];
        private int place = 0;

        boolean append(int c) {
            if (length >= MAX_TEXT) {
                return false;
            }
            bytes[length] = c;
            length++;
            return true;
        }

        int part(int order, int which) {
            return parts[order * PARTS + which];
        }

        /** Reads THE TEXT whole: the FAULT, or NONE. */
        int read() {
            place = 0;
            skipBlanks();
            boolean empty = place >= length;
            for (orders = 0; orders < MOST_ORDERS && place < length; orders++) {
                if (!readOrder(orders * PARTS)) {
                    return place;
                }
                skipBlanks();
            }
            return empty ? length : NONE;
        }

        /** Where this answers false, place is the FAULT. */
        private boolean readOrder(int slot) {
            int letter = bytes[place];
            int numbers = numbersBehind(letter);
            if (numbers == NONE) {
                return false;
            }
            parts[slot] = letter;
            place++;
            for (int i = 1; i <= numbers; i++) {
                skipBlanks();
                if (!readNumber(slot + i)) {
                    return false;
                }
            }
            skipBlanks();
            if (place >= length || bytes[place] != ';') {
                return false;
            }
            place++;
            return true;
        }

        private boolean readNumber(int slot) {
            int value = 0;
            int figures = 0;
            while (figures < MOST_FIGURES && isFigure()) {
                value = 10 * value + bytes[place] - '0';
                place++;
                figures++;
            }
            parts[slot] = value;
            return figures > 0 && !isFigure();
        }

        private void skipBlanks() {
            while (place < length && bytes[place] == ' ') {
                place++;
            }
        }

        private boolean isFigure() {
            return place < length && bytes[place] >= '0' && bytes[place] <= '9';
        }

        private static int numbersBehind(int letter) {
            switch (letter) {
                case 'p':
                    return 0;
                case 'n':
                case 's':
                case 'x':
                    return 1;
                case 'e':
                    return 2;
                case 'c':
                    return 3;
                case 'f':
                    return 4;
                default:
                    return NONE;
            }
        }
    }
}
