import java.util.Arrays;

/**
 * Nets of agents that rewire themselves. A CODE, in all classes here, tells one end of a wire:
 * 8 times an agent and its port, or -2 less the number of an END (in a rule: of a SLOT, which is a
 * port but the head of one of its sides).
 */
public final class HeadNets {
    public static final int NONE = -1, UNKNOWN = -1001, OUTSIDE = -1002, STATE = -1003, FULL = -1004;

    private static final int MOST_BYTES = 4000;
    private static final int MOST_KINDS = 16;
    private static final int MOST_PORTS = 5;
    private static final int MOST_RULES = 60;
    private static final int MOST_RULE_AGENTS = 12;
    private static final int MOST_TEXT_AGENTS = 200;
    private static final int MOST_AGENTS = 400;
    private static final int MOST_NAMES = 60;
    private static final int MOST_ENDS = 8;
    private static final int MOST_STEPS = 3000;
    private static final int SHELVES = 4;

    private static final int CODES_AN_AGENT = 8;
    private static final int SIDE_SLOTS = MOST_PORTS - 1;
    private static final int SLOTS = 2 * SIDE_SLOTS;

    private static final int ORDER_LEAST = 0;
    private static final int ORDER_GREATEST = 1;
    private static final int ORDER_ROUNDS = 2;
    private static final int ORDER_DRAWN = 3;

    private final Reader reader;
    private final Rewriter rewriter;
    private final Journal journal;
    private final Net[] shelves;
    private final int[] roundPairs;
    private final Walk walk;
    private final Walk otherWalk;
    private final Printer printer;
    private Book book;
    private long drawn;

    public HeadNets() {
        reader = new Reader();
        rewriter = new Rewriter();
        journal = new Journal();
        shelves = new Net[SHELVES];
        for (int s = 0; s < SHELVES; s++) {
            shelves[s] = new Net();
        }
        roundPairs = new int[MOST_AGENTS];
        walk = new Walk();
        otherWalk = new Walk();
        printer = new Printer();
        book = new Book();
        drawn = 1;
    }

    // ---- texts

    public int feed(int a, int b, int c, int d, int e) {
        Tape tape = reader.tape;
        if (!tape.hasRoom(20)) {
            return FULL;
        }
        tape.append(a);
        tape.append(b);
        tape.append(c);
        tape.append(d);
        tape.append(e);
        return tape.length;
    }

    public int cut(int n) {
        Tape tape = reader.tape;
        if (n < 0 || n > tape.length) {
            return OUTSIDE;
        }
        int gone = tape.length - n;
        tape.length = n;
        return gone;
    }

    public int read() {
        int fault = reader.readText();
        if (fault != 0) {
            return -10 - fault;
        }
        // the book that was in use is the one to read into next, so no read() makes anything new
        Book old = book;
        book = reader.book;
        reader.book = old;
        journal.clear(book.net.size);
        emptyShelves();
        return book.net.size;
    }

    public int place() {
        return reader.faultPlace;
    }

    // ---- what is there

    public int count(int what) {
        switch (what) {
            case 0: return book.kinds.size;
            case 1: return book.rules.size;
            case 2: return book.net.size;
            case 3: return book.net.endCount;
            case 4: return book.net.rings;
            case 5: return book.countPairs(true);
            case 6: return book.countPairs(false);
            case 7: return walk.countCircles(book.net);
            case 8: return journal.steps;
            case 9: return journal.mostAgents;
            case 10: return journal.rounds;
            case 11: return journal.crowded ? 1 : 0;
            case 12: return printer.length;
            default: return OUTSIDE;
        }
    }

    public int kind(int k, int what) {
        if (!book.kinds.has(k)) {
            return UNKNOWN;
        }
        if (what < 0 || what > 6) {
            return OUTSIDE;
        }
        if (what == 0) {
            return book.kinds.portsOf(k);
        }
        if (what == 1) {
            return book.net.countOfKind(k);
        }
        return book.kinds.hasPort(k, what - 2) ? book.kinds.sortOf(k, what - 2) : -100;
    }

    public int rule(int a, int b) {
        if (!book.kinds.has(a) || !book.kinds.has(b)) {
            return UNKNOWN;
        }
        int r = book.rules.ruleFor(a, b);
        return r == NONE ? NONE : book.rules.agentsIn(r);
    }

    public int agent(int n) {
        return book.net.has(n) ? book.net.kindOf(n) : UNKNOWN;
    }

    public int wired(int n, int p) {
        if (!book.net.has(n)) {
            return UNKNOWN;
        }
        if (!book.kinds.hasPort(book.net.kindOf(n), p)) {
            return OUTSIDE;
        }
        return book.net.wireOf(portCode(n, p));
    }

    public int end(int e) {
        return book.net.hasEnd(e) ? book.net.wireOf(endCode(e)) : UNKNOWN;
    }

    public int pair(int i) {
        return book.alivePairAt(i);
    }

    // ---- steps

    public int step(int n) {
        if (!book.net.has(n)) {
            return UNKNOWN;
        }
        if (book.aliveRule(n) == NONE) {
            return STATE;
        }
        return takeStep(n) ? 1 : 0;
    }

    public int run(int order, int n) {
        if (order < ORDER_LEAST || order > ORDER_DRAWN || n < 0 || n > MOST_STEPS) {
            return OUTSIDE;
        }
        journal.crowded = false;
        return order == ORDER_ROUNDS ? runRounds(n) : runSingly(order, n);
    }

    public int draw(int seed) {
        drawn = seed;
        return 1;
    }

    public int trace(int i) {
        return journal.recentStep(i);
    }

    // ---- shelves

    public int keep(int s) {
        Net shelf = shelfAt(s);
        if (shelf == null) {
            return UNKNOWN;
        }
        shelf.copyFrom(book.net);
        shelf.kept = true;
        return shelf.size;
    }

    public int back(int s) {
        Net shelf = shelfAt(s);
        if (shelf == null) {
            return UNKNOWN;
        }
        if (!shelf.kept) {
            return STATE;
        }
        book.net.copyFrom(shelf);
        return shelf.size;
    }

    public int like(int s) {
        Net shelf = shelfAt(s);
        if (shelf == null) {
            return UNKNOWN;
        }
        if (!shelf.kept) {
            return STATE;
        }
        walk.reachAll(book.net, book.kinds);
        otherWalk.reachAll(shelf, book.kinds);
        return walk.isLike(book.net, otherWalk, shelf, book.kinds) ? 1 : 0;
    }

    public int reached() {
        walk.reachAll(book.net, book.kinds);
        return walk.size;
    }

    // ---- what comes out

    public int print(int e) {
        if (!book.net.hasEnd(e)) {
            return UNKNOWN;
        }
        printer.length = 0;
        printer.putTree(book, book.net.wireOf(endCode(e)), 0);
        return printer.length;
    }

    public int out(int i) {
        return printer.byteAt(i);
    }

    // ---- within

    private static int portCode(int agent, int port) {
        return CODES_AN_AGENT * agent + port;
    }

    private static int agentOf(int code) {
        return code >> 3;
    }

    private static int portOf(int code) {
        return code & (CODES_AN_AGENT - 1);
    }

    private static int endCode(int e) {
        return -2 - e;
    }

    private static int endOf(int code) {
        return -2 - code;
    }

    private static boolean isInside(int i, int length) {
        return i >= 0 && i < length;
    }

    private Net shelfAt(int s) {
        return isInside(s, shelves.length) ? shelves[s] : null;
    }

    private void emptyShelves() {
        for (int s = 0; s < SHELVES; s++) {
            Net shelf = shelfAt(s);
            if (shelf != null) {
                shelf.kept = false;
            }
        }
    }

    /** False, with nothing changed, if THE NET would be CROWDED. */
    private boolean takeStep(int n) {
        Net net = book.net;
        int r = book.aliveRule(n);
        int mate = net.mateOf(n);
        if (r == NONE || net.size - 2 + book.rules.agentsIn(r) > MOST_AGENTS) {
            return false;
        }
        int lesser = Math.min(n, mate);
        int greater = Math.max(n, mate);
        journal.noteStep(net.kindOf(lesser), net.kindOf(greater));
        rewriter.rewrite(book, r, lesser, greater);
        journal.noteAgents(net.size);
        return true;
    }

    private int runSingly(int order, int n) {
        for (int done = 0; done < n; done++) {
            int pair = choosePair(order);
            if (pair == NONE) {
                return done;
            }
            if (!takeStep(pair)) {
                journal.crowded = true;
                return done;
            }
        }
        return n;
    }

    private int choosePair(int order) {
        if (order == ORDER_LEAST) {
            return book.alivePairAt(0);
        }
        if (order == ORDER_GREATEST) {
            return book.greatestAlivePair();
        }
        int alive = book.countPairs(true);
        if (alive <= 0) {
            return NONE;
        }
        drawn = drawn * 6364136223846793005L + 1442695040888963407L;
        return book.alivePairAt((int) ((drawn >>> 33) % alive));
    }

    private int runRounds(int n) {
        int done = 0;
        for (int round = 0; round < MOST_STEPS && done < n; round++) {
            int size = book.listAlivePairs(roundPairs);
            if (size == 0) {
                return done;
            }
            journal.rounds++;
            for (int i = 0; i < size && i < roundPairs.length && done < n; i++) {
                if (!takeStep(roundPairs[i])) {
                    journal.crowded = true;
                    return done;
                }
                done++;
            }
        }
        return done;
    }

    /** What a text tells: KINDS, RULES and the net, which then goes on as THE NET. */
    private static final class Book {
        final Kinds kinds = new Kinds();
        final Rules rules = new Rules();
        final Net net = new Net();

        void clear() {
            kinds.size = 0;
            rules.clear();
            net.clear();
        }

        /** The RULE of the PAIR that an AGENT is in; NONE, if it is in none that is ALIVE. */
        int aliveRule(int n) {
            int mate = net.mateOf(n);
            return mate == NONE ? NONE : rules.ruleFor(net.kindOf(n), net.kindOf(mate));
        }

        boolean isPair(int n, boolean alive) {
            return net.mateOf(n) > n && (aliveRule(n) != NONE) == alive;
        }

        int countPairs(boolean alive) {
            int pairs = 0;
            for (int n = 0; n < net.top; n++) {
                if (isPair(n, alive)) {
                    pairs++;
                }
            }
            return pairs;
        }

        int alivePairAt(int i) {
            int left = i;
            for (int n = 0; n < net.top && left >= 0; n++) {
                if (isPair(n, true)) {
                    if (left == 0) {
                        return n;
                    }
                    left--;
                }
            }
            return NONE;
        }

        int greatestAlivePair() {
            for (int n = net.top - 1; n >= 0; n--) {
                if (isPair(n, true)) {
                    return n;
                }
            }
            return NONE;
        }

        int listAlivePairs(int[] row) {
            int size = 0;
            for (int n = 0; n < net.top && size < row.length; n++) {
                if (isPair(n, true)) {
                    row[size] = n;
                    size++;
                }
            }
            return size;
        }
    }

    /** KINDS; a SORT is a number from 0 on, turned by ~ if the SIGN is -, so that ~ turns a SIGN round. */
    private static final class Kinds {
        private final long[] names = new long[MOST_KINDS];
        private final int[] ports = new int[MOST_KINDS];
        private final int[] sorts = new int[MOST_KINDS * MOST_PORTS];
        int size;

        boolean has(int k) {
            return k >= 0 && k < size && k < MOST_KINDS;
        }

        boolean isFull() {
            return size >= MOST_KINDS;
        }

        int find(long name) {
            for (int k = 0; k < size && k < MOST_KINDS; k++) {
                if (names[k] == name) {
                    return k;
                }
            }
            return NONE;
        }

        void add(long name) {
            if (!isFull()) {
                names[size] = name;
                ports[size] = 0;
                size++;
            }
        }

        /** Gives the latest KIND one more PORT. */
        void addPort(int sort) {
            int k = size - 1;
            if (has(k) && ports[k] < MOST_PORTS) {
                sorts[k * MOST_PORTS + ports[k]] = sort;
                ports[k]++;
            }
        }

        int portsOf(int k) {
            return k >= 0 && k < size && k < MOST_KINDS ? ports[k] : 0;
        }

        long nameOf(int k) {
            return has(k) ? names[k] : 0;
        }

        boolean hasPort(int k, int p) {
            return p >= 0 && p < portsOf(k);
        }

        int sortOf(int k, int p) {
            boolean there = k >= 0 && k < MOST_KINDS && p >= 0 && p < MOST_PORTS;
            return there ? sorts[k * MOST_PORTS + p] : 0;
        }
    }

    /** RULES, with wires in CODES: agents are numbered within the rule, SLOTS stand for what lies outside. */
    private static final class Rules {
        private static final int RULE_CODES = MOST_RULE_AGENTS * CODES_AN_AGENT;

        private final int[] ruleOfKinds = new int[MOST_KINDS * MOST_KINDS];
        private final int[] firstKinds = new int[MOST_RULES];
        private final int[] agentCounts = new int[MOST_RULES];
        private final int[] rings = new int[MOST_RULES];
        private final int[] agentKinds = new int[MOST_RULES * MOST_RULE_AGENTS];
        private final int[] portWires = new int[MOST_RULES * RULE_CODES];
        private final int[] slotWires = new int[MOST_RULES * SLOTS];
        int size;

        Rules() {
            Arrays.fill(ruleOfKinds, NONE);
        }

        void clear() {
            Arrays.fill(ruleOfKinds, NONE);
            size = 0;
        }

        boolean isFull() {
            return size >= MOST_RULES;
        }

        private boolean has(int r) {
            return r >= 0 && r < size && r < MOST_RULES;
        }

        int ruleFor(int a, int b) {
            return isInside(a, MOST_KINDS) && isInside(b, MOST_KINDS) ? ruleOfKinds[a * MOST_KINDS + b] : NONE;
        }

        /** A RULE of two KINDS without agents; they and the wires come behind it. */
        int add(int a, int b) {
            if (isFull() || !isInside(a, MOST_KINDS) || !isInside(b, MOST_KINDS)) {
                return NONE;
            }
            int r = size;
            ruleOfKinds[a * MOST_KINDS + b] = r;
            ruleOfKinds[b * MOST_KINDS + a] = r;
            firstKinds[r] = a;
            agentCounts[r] = 0;
            rings[r] = 0;
            size++;
            return r;
        }

        void addAgent(int r, int kind) {
            if (has(r) && agentCounts[r] < MOST_RULE_AGENTS) {
                agentKinds[r * MOST_RULE_AGENTS + agentCounts[r]] = kind;
                agentCounts[r]++;
            }
        }

        void setRings(int r, int number) {
            if (has(r)) {
                rings[r] = number;
            }
        }

        void setWire(int r, int from, int to) {
            if (has(r) && isInside(from, RULE_CODES)) {
                portWires[r * RULE_CODES + from] = to;
            } else if (has(r) && isInside(endOf(from), SLOTS)) {
                slotWires[r * SLOTS + endOf(from)] = to;
            }
        }

        int wireOf(int r, int code) {
            if (has(r) && isInside(code, RULE_CODES)) {
                return portWires[r * RULE_CODES + code];
            }
            return has(r) && isInside(endOf(code), SLOTS) ? slotWires[r * SLOTS + endOf(code)] : NONE;
        }

        int firstKind(int r) {
            return has(r) ? firstKinds[r] : NONE;
        }

        int agentsIn(int r) {
            return has(r) ? agentCounts[r] : 0;
        }

        int agentKind(int r, int i) {
            return isInside(i, agentsIn(r)) && i < MOST_RULE_AGENTS ? agentKinds[r * MOST_RULE_AGENTS + i] : NONE;
        }

        int ringsIn(int r) {
            return has(r) ? rings[r] : 0;
        }
    }

    /** AGENTS with their numbers, and what each of their PORTS and each END is wired to. */
    private static final class Net {
        private final int[] kinds = new int[MOST_AGENTS];
        private final int[] wires = new int[MOST_AGENTS * CODES_AN_AGENT];
        private final int[] ends = new int[MOST_ENDS];
        int size;
        int endCount;
        int rings;
        /** All AGENTS have numbers below this one; it spares looking at the free ones above. */
        int top;
        /** Of a SHELF: whether it has been given a net since read(). */
        boolean kept;

        Net() {
            Arrays.fill(kinds, NONE);
        }

        void clear() {
            Arrays.fill(kinds, NONE);
            size = 0;
            endCount = 0;
            rings = 0;
            top = 0;
        }

        void copyFrom(Net other) {
            System.arraycopy(other.kinds, 0, kinds, 0, MOST_AGENTS);
            System.arraycopy(other.wires, 0, wires, 0, MOST_AGENTS * CODES_AN_AGENT);
            System.arraycopy(other.ends, 0, ends, 0, MOST_ENDS);
            size = other.size;
            endCount = other.endCount;
            rings = other.rings;
            top = other.top;
        }

        boolean has(int n) {
            return n >= 0 && n < MOST_AGENTS && kinds[n] != NONE;
        }

        boolean hasEnd(int e) {
            return isInside(e, endCount);
        }

        int kindOf(int n) {
            return isInside(n, MOST_AGENTS) ? kinds[n] : NONE;
        }

        int countOfKind(int k) {
            int agents = 0;
            for (int n = 0; n < top && n < MOST_AGENTS; n++) {
                if (kinds[n] == k) {
                    agents++;
                }
            }
            return agents;
        }

        /** The new AGENT gets the least free number from a number on; NONE, if all are taken. */
        int add(int kind, int from) {
            for (int n = Math.max(from, 0); n < MOST_AGENTS; n++) {
                if (kinds[n] == NONE) {
                    kinds[n] = kind;
                    size++;
                    top = Math.max(top, n + 1);
                    return n;
                }
            }
            return NONE;
        }

        void remove(int n) {
            if (has(n)) {
                kinds[n] = NONE;
                size--;
            }
            for (int t = Math.min(top, MOST_AGENTS); t > 0 && kinds[t - 1] == NONE; t--) {
                top = t - 1;
            }
        }

        int wireOf(int code) {
            if (isInside(code, wires.length)) {
                return wires[code];
            }
            return isInside(endOf(code), ends.length) ? ends[endOf(code)] : NONE;
        }

        void setWire(int from, int to) {
            if (isInside(from, wires.length)) {
                wires[from] = to;
            } else if (isInside(endOf(from), ends.length)) {
                ends[endOf(from)] = to;
            }
        }

        void join(int a, int b) {
            setWire(a, b);
            setWire(b, a);
        }

        /** The AGENT whose HEAD is wired to the HEAD of this one; NONE. */
        int mateOf(int n) {
            int code = has(n) ? wires[n * CODES_AN_AGENT] : NONE;
            return code >= 0 && portOf(code) == 0 ? agentOf(code) : NONE;
        }

        /** The AGENT with the PORT but the HEAD that the HEAD of this one is wired to; NONE. */
        int waitsFor(int n) {
            int code = has(n) ? wires[n * CODES_AN_AGENT] : NONE;
            return code >= 0 && portOf(code) != 0 ? agentOf(code) : NONE;
        }
    }

    /** Does a STEP: takes the two AGENTS out and puts the net of their RULE in. */
    private static final class Rewriter {
        /** What the port of a SLOT was wired to, if that was not another SLOT. */
        private final int[] outerCodes = new int[SLOTS];
        private final int[] outerSlots = new int[SLOTS];
        /** SLOTS that a joined wire goes through, or that the two KINDS do not have. */
        private final boolean[] passed = new boolean[SLOTS];
        private final int[] numbers = new int[MOST_RULE_AGENTS];

        void rewrite(Book book, int r, int lesser, int greater) {
            boolean lesserIsFirst = book.rules.firstKind(r) == book.net.kindOf(lesser);
            int first = lesserIsFirst ? lesser : greater;
            int second = lesserIsFirst ? greater : lesser;
            passAll();
            noteOutside(book, first, second, 0);
            noteOutside(book, second, first, SIDE_SLOTS);
            book.net.remove(first);
            book.net.remove(second);
            putAgents(book, r);
            wireAgents(book, r);
            wireOuter(book, r);
            book.net.rings += book.rules.ringsIn(r) + countRings(book.rules, r);
        }

        private void passAll() {
            for (int slot = 0; slot < SLOTS; slot++) {
                passed[slot] = true;
            }
        }

        /** Looks at the PORTS of one side before its AGENT goes. */
        private void noteOutside(Book book, int own, int mate, int base) {
            int ports = Math.min(book.kinds.portsOf(book.net.kindOf(own)), MOST_PORTS);
            for (int p = 1; p < ports; p++) {
                int slot = base + p - 1;
                int code = book.net.wireOf(portCode(own, p));
                if (isInside(slot, SLOTS)) {
                    passed[slot] = false;
                    outerCodes[slot] = code;
                    outerSlots[slot] = slotAt(code, own, mate, base);
                }
            }
        }

        private static int slotAt(int code, int own, int mate, int base) {
            if (code < 0 || portOf(code) == 0) {
                return NONE;
            }
            if (agentOf(code) == own) {
                return base + portOf(code) - 1;
            }
            return agentOf(code) == mate ? SIDE_SLOTS - base + portOf(code) - 1 : NONE;
        }

        private void putAgents(Book book, int r) {
            int from = 0;
            for (int i = 0; i < book.rules.agentsIn(r) && i < MOST_RULE_AGENTS; i++) {
                numbers[i] = book.net.add(book.rules.agentKind(r, i), from);
                // the least free number only grows while AGENTS come
                from = numbers[i] + 1;
            }
        }

        private void wireAgents(Book book, int r) {
            for (int i = 0; i < book.rules.agentsIn(r) && i < MOST_RULE_AGENTS; i++) {
                int ports = book.kinds.portsOf(book.rules.agentKind(r, i));
                for (int p = 0; p < ports; p++) {
                    int far = follow(book.rules, r, portCode(i, p));
                    book.net.join(portCode(numbers[i], p), far);
                }
            }
        }

        /** What is left to join after the new AGENTS: wires that only go through. */
        private void wireOuter(Book book, int r) {
            for (int slot = 0; slot < SLOTS; slot++) {
                if (!passed[slot] && outerSlots[slot] == NONE) {
                    book.net.join(outerCodes[slot], follow(book.rules, r, endCode(slot)));
                }
            }
        }

        /** SLOTS that no wire with something at its ends goes through lie in RINGS. */
        private int countRings(Rules rules, int r) {
            int rings = 0;
            for (int slot = 0; slot < SLOTS; slot++) {
                if (!passed[slot]) {
                    rings++;
                    follow(rules, r, endCode(slot));
                }
            }
            return rings;
        }

        /**
         * What lies, in THE NET, at the far end of a wire that begins with the one at a CODE of the
         * RULE and may go out and in again through SLOTS; NONE in a RING.
         */
        private int follow(Rules rules, int r, int from) {
            int at = from;
            for (int i = 0; i <= SLOTS; i++) {
                pass(at);
                int inner = rules.wireOf(r, at);
                if (inner >= 0) {
                    return codeInNet(inner);
                }
                pass(inner);
                int exit = endOf(inner);
                if (exit < 0 || exit >= SLOTS) {
                    return NONE;
                }
                if (outerSlots[exit] == NONE) {
                    return outerCodes[exit];
                }
                at = endCode(outerSlots[exit]);
            }
            return NONE;
        }

        private void pass(int code) {
            int slot = endOf(code);
            if (slot >= 0 && slot < SLOTS) {
                passed[slot] = true;
            }
        }

        private int codeInNet(int ruleCode) {
            int i = agentOf(ruleCode);
            return i >= 0 && i < MOST_RULE_AGENTS ? portCode(numbers[i], portOf(ruleCode)) : NONE;
        }
    }

    /** Counts since read(), and the TRACE. */
    private static final class Journal {
        private static final int RECENT = 50;

        private final int[] recent = new int[RECENT];
        int steps;
        int mostAgents;
        int rounds;
        /** Of the latest run(), not since read(). */
        boolean crowded;

        void clear(int agents) {
            steps = 0;
            mostAgents = agents;
            rounds = 0;
        }

        void noteStep(int lesserKind, int greaterKind) {
            recent[Math.floorMod(steps, RECENT)] = MOST_KINDS * lesserKind + greaterKind;
            steps++;
        }

        void noteAgents(int agents) {
            mostAgents = Math.max(mostAgents, agents);
        }

        int recentStep(int i) {
            return isInside(i, Math.min(steps, RECENT)) ? recent[Math.floorMod(steps - 1 - i, RECENT)] : NONE;
        }
    }

    /** Goes through a net from its ENDS and numbers the AGENTS as they are reached. */
    private static final class Walk {
        private final int[] order = new int[MOST_AGENTS];
        private final int[] numbers = new int[MOST_AGENTS];
        int size;

        void reachAll(Net net, Kinds kinds) {
            Arrays.fill(numbers, NONE);
            size = 0;
            int next = 0;
            for (int e = 0; e < net.endCount; e++) {
                reach(net.wireOf(endCode(e)));
                for (; next < size && next < MOST_AGENTS; next++) {
                    goThrough(net, kinds, order[next]);
                }
            }
        }

        private void goThrough(Net net, Kinds kinds, int n) {
            int ports = kinds.portsOf(net.kindOf(n));
            for (int p = 0; p < ports; p++) {
                reach(net.wireOf(portCode(n, p)));
            }
        }

        private void reach(int code) {
            int n = code < 0 ? NONE : agentOf(code);
            if (isInside(n, MOST_AGENTS) && numbers[n] == NONE && size < MOST_AGENTS) {
                numbers[n] = size;
                order[size] = n;
                size++;
            }
        }

        /** Both walks have been made, this one through net, the other one through otherNet. */
        boolean isLike(Net net, Walk other, Net otherNet, Kinds kinds) {
            return size == other.size && net.endCount == otherNet.endCount && net.rings == otherNet.rings
                && hasSameCounts(net, otherNet)
                && hasSameEnds(net, other, otherNet) && hasSameAgents(net, other, otherNet, kinds);
        }

        /** Where the reached AGENTS are the same, so are the others if all are as many. */
        private static boolean hasSameCounts(Net net, Net otherNet) {
            for (int k = 0; k < MOST_KINDS; k++) {
                if (net.countOfKind(k) != otherNet.countOfKind(k)) {
                    return false;
                }
            }
            return true;
        }

        private boolean hasSameEnds(Net net, Walk other, Net otherNet) {
            for (int e = 0; e < net.endCount; e++) {
                if (numbered(net.wireOf(endCode(e))) != other.numbered(otherNet.wireOf(endCode(e)))) {
                    return false;
                }
            }
            return true;
        }

        private boolean hasSameAgents(Net net, Walk other, Net otherNet, Kinds kinds) {
            for (int i = 0; i < size && i < MOST_AGENTS; i++) {
                int n = order[i];
                int m = other.order[i];
                if (net.kindOf(n) != otherNet.kindOf(m)) {
                    return false;
                }
                int ports = kinds.portsOf(net.kindOf(n));
                for (int p = 0; p < ports; p++) {
                    int here = numbered(net.wireOf(portCode(n, p)));
                    if (here != other.numbered(otherNet.wireOf(portCode(m, p)))) {
                        return false;
                    }
                }
            }
            return true;
        }

        /** A CODE with the number of the walk in place of that of the net. */
        private int numbered(int code) {
            if (code < 0 || !isInside(agentOf(code), MOST_AGENTS)) {
                return code;
            }
            return portCode(numbers[agentOf(code)], portOf(code));
        }

        /** Follows HEADS from each AGENT; a chain that comes upon its own mark has gone into a new circle. */
        int countCircles(Net net) {
            Arrays.fill(numbers, NONE);
            int circles = 0;
            for (int start = 0; start < net.top && start < MOST_AGENTS; start++) {
                int at = start;
                for (int i = 0; i < MOST_AGENTS && isInside(at, MOST_AGENTS) && numbers[at] == NONE; i++) {
                    numbers[at] = start;
                    at = net.waitsFor(at);
                }
                // marks of earlier chains are other numbers: what they lead to has been counted
                if (isInside(at, MOST_AGENTS) && numbers[at] == start) {
                    circles++;
                }
            }
            return circles;
        }
    }

    /** THE OUT. */
    private static final class Printer {
        private static final int MOST_OPEN = 40;

        private final byte[] bytes = new byte[MOST_BYTES];
        int length;

        int byteAt(int i) {
            return isInside(i, length) && i < MOST_BYTES ? bytes[i] & 255 : NONE;
        }

        private void put(int b) {
            if (length < MOST_BYTES) {
                bytes[length] = (byte) b;
                length++;
            }
        }

        /** open tells how many AGENTS the tree stands within. */
        private void putTree(Book book, int code, int open) {
            if (code < 0) {
                put('#');
                put('0' + endOf(code));
            } else if (portOf(code) != 0) {
                put('@');
            } else if (open >= MOST_OPEN) {
                put('~');
            } else {
                putAgent(book, agentOf(code), open);
            }
        }

        private void putAgent(Book book, int n, int open) {
            int k = book.net.kindOf(n);
            putName(book.kinds.nameOf(k));
            int ports = book.kinds.portsOf(k);
            for (int p = 1; p < ports; p++) {
                put(p == 1 ? '(' : ',');
                putTree(book, book.net.wireOf(portCode(n, p)), open + 1);
            }
            if (ports > 1) {
                put(')');
            }
        }

        private void putName(long name) {
            for (int shift = 56; shift >= 0; shift -= 8) {
                int b = (int) (name >>> shift) & 255;
                if (b != 0) {
                    put(b);
                }
            }
        }
    }

    /** THE TAPE, and its TOKENS with the one that is being looked at. */
    private static final class Tape {
        static final int BAD = 0;
        static final int ALL_READ = 1;
        static final int NAME = 2;
        static final int BIG_NAME = 3;
        /** The two bytes ><; a SIGN of one byte is that byte. */
        static final int MEETS = 4;

        private static final int LONGEST_NAME = 8;
        private static final String SIGNS = "(),=;+-:";

        private final byte[] bytes = new byte[MOST_BYTES];
        private final int[] tokens = new int[MOST_BYTES + 1];
        private final int[] starts = new int[MOST_BYTES + 1];
        private final long[] names = new long[MOST_BYTES + 1];
        private int tokenCount;
        private int at;
        int length;
        int token;
        int tokenStart;
        /** The bytes of a NAME or BIG NAME: eight are just as many as a long holds. */
        long tokenName;

        boolean hasRoom(int more) {
            return length + more <= MOST_BYTES;
        }

        void append(int number) {
            for (int shift = 24; shift >= 0 && length < MOST_BYTES; shift -= 8) {
                bytes[length] = (byte) (number >>> shift);
                length++;
            }
        }

        private int byteAt(int i) {
            return isInside(i, length) && i < MOST_BYTES ? bytes[i] & 255 : NONE;
        }

        /** Finds all TOKENS, bad ones too, and looks at the first one. */
        void scan() {
            tokenCount = 0;
            int i = 0;
            while (i < length) {
                i += Math.max(scanAt(i), 1);
            }
            addToken(ALL_READ, length, 0);
            at = -1;
            advance();
        }

        /** How many bytes the TOKEN or the blank at a byte has. */
        private int scanAt(int i) {
            int b = byteAt(i);
            int row = countRow(i);
            if (row > 0) {
                addToken(kindOfRow(i, row), i, packName(i, row));
                return row;
            }
            if (b == '>' && byteAt(i + 1) == '<') {
                addToken(MEETS, i, 0);
                return 2;
            }
            if (b != 10 && b != 32) {
                addToken(SIGNS.indexOf((char) b) >= 0 ? b : BAD, i, 0);
            }
            return 1;
        }

        private void addToken(int type, int start, long name) {
            if (tokenCount <= MOST_BYTES) {
                tokens[tokenCount] = type;
                starts[tokenCount] = start;
                names[tokenCount] = name;
                tokenCount++;
            }
        }

        /** The last TOKEN, the end of the text, stays when it has been come to. */
        void advance() {
            int next = Math.min(at + 1, tokenCount - 1);
            if (next >= 0 && next <= MOST_BYTES) {
                at = next;
                token = tokens[next];
                tokenStart = starts[next];
                tokenName = names[next];
            }
        }

        private static boolean isBig(int b) {
            return b >= 'A' && b <= 'Z';
        }

        private static boolean isDigit(int b) {
            return b >= '0' && b <= '9';
        }

        private static boolean isLetterOrDigit(int b) {
            return b >= 'a' && b <= 'z' || isBig(b) || isDigit(b);
        }

        private int countRow(int start) {
            int row = 0;
            while (start + row < length && isLetterOrDigit(byteAt(start + row))) {
                row++;
            }
            return row;
        }

        private int kindOfRow(int start, int row) {
            boolean big = isBig(byteAt(start));
            if (row > LONGEST_NAME || isDigit(byteAt(start))) {
                return BAD;
            }
            for (int i = 1; i < row && !big; i++) {
                if (isBig(byteAt(start + i))) {
                    return BAD;
                }
            }
            return big ? BIG_NAME : NAME;
        }

        private long packName(int start, int row) {
            long name = 0;
            for (int i = 0; i < row && i < LONGEST_NAME; i++) {
                name = name << 8 | byteAt(start + i);
            }
            return name;
        }
    }

    /**
     * The links of one rule or net while they are read. A POINT is one end of a wire: a PORT of an
     * agent (its CODE), one of the two standings of a NAME, or what lies outside: ENDS, SLOTS.
     */
    private static final class Draft {
        private static final int STANDINGS = MOST_TEXT_AGENTS * CODES_AN_AGENT;
        private static final int OUTER = STANDINGS + 2 * MOST_NAMES;
        private static final int POINTS = OUTER + (MOST_ENDS > SLOTS ? MOST_ENDS : SLOTS);

        private final int[] mates = new int[POINTS];
        private final int[] agentKinds = new int[MOST_TEXT_AGENTS];
        private final long[] names = new long[MOST_NAMES];
        private final int[] times = new int[MOST_NAMES];
        private final boolean[] walked = new boolean[MOST_NAMES];
        int agentCount;
        int nameCount;
        int endCount;

        void clear() {
            Arrays.fill(mates, NONE);
            agentCount = 0;
            nameCount = 0;
            endCount = 0;
        }

        int addAgent(int kind) {
            if (agentCount < MOST_TEXT_AGENTS) {
                agentKinds[agentCount] = kind;
                agentCount++;
            }
            return agentCount - 1;
        }

        int kindOf(int agent) {
            return agent >= 0 && agent < agentCount && agent < MOST_TEXT_AGENTS ? agentKinds[agent] : NONE;
        }

        /** The number of a NAME, which comes if it is not there yet; NONE, if it would be one too many. */
        int nameNumber(long name) {
            for (int i = 0; i < nameCount && i < MOST_NAMES; i++) {
                if (names[i] == name) {
                    return i;
                }
            }
            if (nameCount >= MOST_NAMES) {
                return NONE;
            }
            names[nameCount] = name;
            times[nameCount] = 0;
            walked[nameCount] = false;
            nameCount++;
            return nameCount - 1;
        }

        /** The POINT of the next standing of a NAME; NONE for the third and later ones, which are only counted. */
        int stand(int name) {
            if (name < 0 || name >= MOST_NAMES) {
                return NONE;
            }
            times[name]++;
            return times[name] <= 2 ? STANDINGS + 2 * name + times[name] - 1 : NONE;
        }

        boolean hasNameStanding(int least, int most) {
            for (int i = 0; i < nameCount && i < MOST_NAMES; i++) {
                if (times[i] >= least && times[i] <= most) {
                    return true;
                }
            }
            return false;
        }

        void join(int a, int b) {
            if (isInside(a, POINTS) && isInside(b, POINTS)) {
                mates[a] = b;
                mates[b] = a;
            }
        }

        /** NAMES that stand once become ENDS; those beyond the most there may be are only counted. */
        void addEnds() {
            for (int i = 0; i < nameCount && i < MOST_NAMES; i++) {
                if (times[i] == 1) {
                    if (endCount < MOST_ENDS) {
                        join(OUTER + endCount, stand(i));
                    }
                    endCount++;
                }
            }
        }

        static int outerPoint(int e) {
            return isInside(e, POINTS - OUTER) ? OUTER + e : NONE;
        }

        private static boolean isStanding(int point) {
            return point >= STANDINGS && point < OUTER;
        }

        /** The CODE of the POINT at the far end of the wire that a POINT is at, through all NAMES between. */
        int farCode(int point) {
            int at = isInside(point, POINTS) ? mates[point] : NONE;
            for (int i = 0; i < MOST_NAMES && isStanding(at); i++) {
                at = passName(at);
            }
            return at >= OUTER ? endCode(at - OUTER) : at;
        }

        /** From one standing of a NAME through its other one to what that is joined to. */
        private int passName(int standing) {
            int i = standing - STANDINGS;
            if (i < 0 || i >= 2 * MOST_NAMES) {
                return NONE;
            }
            walked[i >> 1] = true;
            return mates[STANDINGS + (i ^ 1)];
        }

        /** To be asked when all wires with something at an end have been gone along: what is left is RINGS. */
        int countRings() {
            int rings = 0;
            for (int i = 0; i < nameCount && i < MOST_NAMES; i++) {
                if (!walked[i]) {
                    rings++;
                    farCode(STANDINGS + 2 * i);
                }
            }
            return rings;
        }
    }

    /** Reads a text into a book, token by token, up to its first FAULT. */
    private static final class Reader {
        private static final long WORD_KIND = 0x6b696e64L;
        private static final long WORD_RULE = 0x72756c65L;
        private static final long WORD_NET = 0x6e6574L;
        private static final int MOST_OPEN = 12;

        private static final int NOT_A_TOKEN = 1;
        private static final int CANNOT_STAND = 2;
        private static final int WRONG_KIND = 3;
        private static final int TOO_MANY = 4;
        private static final int WRONG_BRACKET = 5;
        private static final int WRONG_RULE = 6;
        private static final int WRONG_WIRE = 7;

        private final Draft draft = new Draft();
        private final int[] sideKinds = new int[2];
        private boolean inRule;
        private boolean netRead;
        private int fault;
        final Tape tape = new Tape();
        /** What is read goes here; after a FAULT it is of no use. */
        Book book = new Book();
        int faultPlace = NONE;

        /** The number of the FAULT; 0: there is none. */
        int readText() {
            book.clear();
            netRead = false;
            fault = 0;
            faultPlace = NONE;
            tape.scan();
            for (int i = 0; i < MOST_BYTES && fault == 0 && tape.token != Tape.ALL_READ; i++) {
                if (isWord(WORD_KIND)) {
                    readKind();
                } else if (isWord(WORD_RULE)) {
                    readRule();
                } else if (isWord(WORD_NET)) {
                    readNet();
                } else {
                    refuseToken();
                }
            }
            tape.length = 0;
            return fault;
        }

        private boolean isWord(long word) {
            return tape.token == Tape.NAME && tape.tokenName == word;
        }

        private void refuse(int number) {
            fault = number;
            faultPlace = tape.tokenStart;
        }

        private void refuseToken() {
            fault = tape.token == Tape.BAD ? NOT_A_TOKEN : CANNOT_STAND;
            faultPlace = tape.tokenStart;
        }

        private void pass(int token) {
            if (tape.token == token) {
                tape.advance();
            } else {
                refuseToken();
            }
        }

        private void readKind() {
            tape.advance();
            if (tape.token != Tape.BIG_NAME) {
                refuseToken();
            } else if (book.kinds.find(tape.tokenName) != NONE) {
                refuse(WRONG_KIND);
            } else if (book.kinds.isFull()) {
                refuse(TOO_MANY);
            } else {
                book.kinds.add(tape.tokenName);
                tape.advance();
                readPorts();
            }
        }

        private void readPorts() {
            readPort(0);
            if (fault == 0 && tape.token == '(') {
                int ports = 1;
                do {
                    tape.advance();
                    readPort(ports);
                    ports++;
                } while (fault == 0 && tape.token == ',' && ports <= MOST_PORTS);
                if (fault == 0) {
                    pass(')');
                }
            }
            if (fault == 0) {
                pass(';');
            }
        }

        private void readPort(int before) {
            long sort = tape.tokenName - 'a';
            if (tape.token != Tape.NAME || sort < 0 || sort > 'z' - 'a') {
                refuseToken();
            } else if (before >= MOST_PORTS) {
                refuse(TOO_MANY);
            } else {
                tape.advance();
                if (tape.token == '+' || tape.token == '-') {
                    book.kinds.addPort(tape.token == '+' ? (int) sort : ~(int) sort);
                    tape.advance();
                } else {
                    refuseToken();
                }
            }
        }

        private void readRule() {
            if (book.rules.isFull()) {
                refuse(TOO_MANY);
                return;
            }
            tape.advance();
            draft.clear();
            inRule = true;
            readSide(0);
            if (fault == 0) {
                pass(Tape.MEETS);
            }
            if (fault == 0) {
                readSide(1);
            }
            if (fault == 0 && tape.token == ':') {
                tape.advance();
                readLinks();
            }
            if (fault == 0) {
                endRule();
            }
        }

        private void readSide(int side) {
            int kind = tape.token == Tape.BIG_NAME ? book.kinds.find(tape.tokenName) : NONE;
            if (tape.token != Tape.BIG_NAME) {
                refuseToken();
            } else if (kind == NONE) {
                refuse(WRONG_KIND);
            } else {
                int start = tape.tokenStart;
                sideKinds[side == 0 ? 0 : 1] = kind;
                tape.advance();
                int inside = tape.token == '(' ? readSideNames(side) : 0;
                askBracket(kind, inside, start);
            }
        }

        private int readSideNames(int side) {
            int names = 0;
            do {
                tape.advance();
                if (tape.token != Tape.NAME) {
                    refuseToken();
                    return names;
                }
                int standing = readName(0);
                if (names < SIDE_SLOTS) {
                    draft.join(Draft.outerPoint(side * SIDE_SLOTS + names), standing);
                }
                names++;
            } while (fault == 0 && tape.token == ',' && names < MOST_BYTES);
            if (fault == 0) {
                pass(')');
            }
            return names;
        }

        private void askBracket(int kind, int inside, int start) {
            if (fault == 0 && inside != book.kinds.portsOf(kind) - 1) {
                fault = WRONG_BRACKET;
                faultPlace = start;
            }
        }

        private void readNet() {
            if (netRead) {
                refuse(TOO_MANY);
                return;
            }
            netRead = true;
            tape.advance();
            draft.clear();
            inRule = false;
            if (tape.token != ';') {
                readLinks();
            }
            if (fault == 0) {
                endNet();
            }
        }

        private void readLinks() {
            boolean more = true;
            for (int i = 0; i < MOST_BYTES && more; i++) {
                int left = readTerm(0);
                if (fault == 0) {
                    pass('=');
                }
                if (fault == 0) {
                    draft.join(left, readTerm(0));
                }
                more = fault == 0 && tape.token == ',';
                if (more) {
                    tape.advance();
                }
            }
        }

        /** The POINT that a term stands for; open tells how many terms it is within. */
        private int readTerm(int open) {
            if (tape.token == Tape.NAME) {
                return readName(open);
            }
            int kind = tape.token == Tape.BIG_NAME ? book.kinds.find(tape.tokenName) : NONE;
            if (tape.token != Tape.BIG_NAME) {
                refuseToken();
            } else if (kind == NONE) {
                refuse(WRONG_KIND);
            } else if (open >= MOST_OPEN || draft.agentCount >= (inRule ? MOST_RULE_AGENTS : MOST_TEXT_AGENTS)) {
                refuse(TOO_MANY);
            } else {
                int start = tape.tokenStart;
                int agent = draft.addAgent(kind);
                tape.advance();
                int inside = tape.token == '(' ? readBracket(agent, open) : 0;
                askBracket(kind, inside, start);
                return portCode(agent, 0);
            }
            return NONE;
        }

        private int readBracket(int agent, int open) {
            int terms = 0;
            do {
                tape.advance();
                int inner = readTerm(open + 1);
                terms++;
                if (terms < MOST_PORTS) {
                    draft.join(portCode(agent, terms), inner);
                }
            } while (fault == 0 && tape.token == ',' && terms < MOST_BYTES);
            if (fault == 0) {
                pass(')');
            }
            return terms;
        }

        private int readName(int open) {
            int name = open >= MOST_OPEN ? NONE : draft.nameNumber(tape.tokenName);
            if (name == NONE) {
                refuse(TOO_MANY);
                return NONE;
            }
            tape.advance();
            return draft.stand(name);
        }

        private void endRule() {
            int a = sideKinds[0];
            int b = sideKinds[1];
            if (tape.token != ';') {
                refuseToken();
            } else if (book.rules.ruleFor(a, b) != NONE || draft.hasNameStanding(1, 1)
                || draft.hasNameStanding(3, MOST_BYTES)) {
                refuse(WRONG_RULE);
            } else if (!agentsFit() || !slotsFit()) {
                refuse(WRONG_WIRE);
            } else {
                storeRule(book.rules.add(a, b));
                tape.advance();
            }
        }

        private void endNet() {
            draft.addEnds();
            if (tape.token != ';') {
                refuseToken();
            } else if (draft.hasNameStanding(3, MOST_BYTES) || draft.endCount > MOST_ENDS || !agentsFit()) {
                refuse(WRONG_WIRE);
            } else {
                storeNet();
                tape.advance();
            }
        }

        private boolean agentsFit() {
            for (int i = 0; i < draft.agentCount; i++) {
                int ports = book.kinds.portsOf(draft.kindOf(i));
                for (int p = 0; p < ports; p++) {
                    if (!fits(book.kinds.sortOf(draft.kindOf(i), p), draft.farCode(portCode(i, p)))) {
                        return false;
                    }
                }
            }
            return true;
        }

        private boolean slotsFit() {
            for (int slot = 0; slot < SLOTS; slot++) {
                if (hasSlot(slot) && !fits(slotSort(slot), draft.farCode(Draft.outerPoint(slot)))) {
                    return false;
                }
            }
            return true;
        }

        /** What is outside a net are ENDS, which have no SORT. */
        private boolean fits(int sort, int farCode) {
            if (farCode >= 0) {
                return sort == ~book.kinds.sortOf(draft.kindOf(agentOf(farCode)), portOf(farCode));
            }
            return !inRule || sort == ~slotSort(endOf(farCode));
        }

        private int slotKind(int slot) {
            return sideKinds[slot < SIDE_SLOTS ? 0 : 1];
        }

        private static int slotPort(int slot) {
            return (slot < SIDE_SLOTS ? slot : slot - SIDE_SLOTS) + 1;
        }

        private boolean hasSlot(int slot) {
            return book.kinds.hasPort(slotKind(slot), slotPort(slot));
        }

        /** A SLOT stands for the PORT outside that fits to its own one, hence the SIGN turned round. */
        private int slotSort(int slot) {
            return ~book.kinds.sortOf(slotKind(slot), slotPort(slot));
        }

        private void storeRule(int r) {
            for (int i = 0; i < draft.agentCount; i++) {
                book.rules.addAgent(r, draft.kindOf(i));
                int ports = book.kinds.portsOf(draft.kindOf(i));
                for (int p = 0; p < ports; p++) {
                    book.rules.setWire(r, portCode(i, p), draft.farCode(portCode(i, p)));
                }
            }
            for (int slot = 0; slot < SLOTS; slot++) {
                if (hasSlot(slot)) {
                    book.rules.setWire(r, endCode(slot), draft.farCode(Draft.outerPoint(slot)));
                }
            }
            book.rules.setRings(r, draft.countRings());
        }

        private void storeNet() {
            Net net = book.net;
            for (int i = 0; i < draft.agentCount; i++) {
                net.add(draft.kindOf(i), i);
                int ports = book.kinds.portsOf(draft.kindOf(i));
                for (int p = 0; p < ports; p++) {
                    net.setWire(portCode(i, p), draft.farCode(portCode(i, p)));
                }
            }
            net.endCount = draft.endCount;
            for (int e = 0; e < draft.endCount; e++) {
                net.setWire(endCode(e), draft.farCode(Draft.outerPoint(e)));
            }
            net.rings = draft.countRings();
        }
    }
}
