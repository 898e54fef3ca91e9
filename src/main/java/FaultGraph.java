/**
 * A plant's failures: parts that fail with odds, gates over parts and gates, causes that break
 * several parts at once, and what follows from them for the top gate.
 *
 * <p>All rows are made once, in the constructor, and used again by every call: no call makes an
 * object, so that many calls can live in one small room.
 */
public final class FaultGraph {
    public static final int NONE = -1, BAD = -2, STATE = -3, FULL = -4, NEVER = -6, EVER = -7;
    public static final long NO = Long.MIN_VALUE;

    private static final int NOT_ANY = -5;
    private static final int NOTHING = -11, CAST = -12, PLACE = -13, SIZE = -14;
    private static final int FAULT_BASE = -10;
    private static final int ENDED_EARLY = 100;

    private static final int MOST_PARTS = 6, MOST_GATES = 8, MOST_INPUTS = 4, MOST_CAUSES = 3;
    private static final int MOST_SETS = 1 << MOST_PARTS;
    private static final int MOST_NEED = 5;
    private static final int WHOLE = 100;
    private static final int GATE_MARK = 10;
    private static final int ALL = 0, ANY = 1, SOME = 2;
    private static final int MOST_SEEN = 6, MOST_EVENTS = 8, MOST_BOOK = 8;
    private static final int TAPES = 6;
    private static final int THE_TOP = -1, EMPTIES = -1;

    private final State now = new State();
    private final State saved = new State();
    private final Plant trial = new Plant();
    private final Graph graph = new Graph();
    private final LeastSets sets = new LeastSets();
    private final Chances chances = new Chances();
    private final SetUpText text = new SetUpText();
    private final Tape[] tapes = new Tape[TAPES];
    private boolean hasImage;

    public FaultGraph() {
        for (int i = 0; i < TAPES; i++) {
            tapes[i] = new Tape();
        }
    }

    // ---- parts, gates, causes

    public int part(int odds) {
        if (!isOdds(odds)) {
            return BAD;
        }
        return now.plant.addPart(odds);
    }

    public int gate(int kind, int k) {
        if (!isKind(kind) || !isNeed(k)) {
            return BAD;
        }
        return now.plant.addGate(kind, k);
    }

    public int turn(int gate, int kind, int k) {
        Plant plant = now.plant;
        if (!plant.hasGate(gate)) {
            return NONE;
        }
        if (!isKind(kind) || !isNeed(k)) {
            return BAD;
        }
        int was = 10 * plant.kinds[gate] + plant.needs[gate];
        plant.kinds[gate] = kind;
        plant.needs[gate] = k;
        return was;
    }

    public int join(int gate, boolean isPart, int n) {
        Plant plant = now.plant;
        if (!plant.hasGate(gate)) {
            return NONE;
        }
        if (isPart) {
            return plant.hasPart(n) ? plant.addInput(gate, n) : NONE;
        }
        if (!plant.hasGate(n)) {
            return NONE;
        }
        if (n >= gate) {
            return STATE;
        }
        return plant.addInput(gate, GATE_MARK + n);
    }

    public int drop(int gate) {
        Plant plant = now.plant;
        if (!plant.hasGate(gate)) {
            return NONE;
        }
        if (plant.inputCounts[gate] == 0) {
            return STATE;
        }
        plant.inputCounts[gate]--;
        return plant.inputCounts[gate];
    }

    public int top(int gate) {
        Plant plant = now.plant;
        if (gate != Plant.LAST_GATE && !plant.hasGate(gate)) {
            return NONE;
        }
        int was = plant.topGate();
        plant.topByHand = gate;
        return was;
    }

    public int cause(int odds, int bits) {
        if (!isOdds(odds) || !now.plant.hasBits(bits)) {
            return BAD;
        }
        return now.plant.addCause(odds, bits);
    }

    public int odds(int side, int k, int v) {
        Plant plant = now.plant;
        boolean isPart = side == 0 && plant.hasPart(k);
        boolean isCause = side == 1 && plant.hasCause(k);
        if (!isPart && !isCause) {
            return NONE;
        }
        if (!isOdds(v)) {
            return BAD;
        }
        int[] row = isPart ? plant.partOdds : plant.causeOdds;
        int was = row[k];
        row[k] = v;
        return was;
    }

    public int of(int side, int k, int what) {
        switch (side) {
            case 0:
                return now.plant.ofPart(k, what);
            case 1:
                return now.plant.ofGate(k, what);
            case 2:
                return now.plant.ofCause(k, what);
            default:
                return NONE;
        }
    }

    public int feed(int sign) {
        if (sign < 0 || sign > 127) {
            return BAD;
        }
        return text.addSign(sign);
    }

    public int read() {
        boolean isSetUp = text.parse();
        text.size = 0;
        if (!isSetUp) {
            return FAULT_BASE - text.at;
        }
        int done = 0;
        for (int i = 0; i < text.clauses; i++) {
            if (obey(i) >= 0) {
                done++;
            }
        }
        return done;
    }

    /** Goes through the same calls as a hand would, so that the same refusals hold. */
    private int obey(int clause) {
        int first = text.firsts[clause];
        int second = text.seconds[clause];
        switch (text.sorts[clause]) {
            case SetUpText.A_PART:
                return part(first);
            case SetUpText.A_GATE:
                return gate(first, second);
            case SetUpText.A_PART_INPUT:
                return join(first, true, second);
            case SetUpText.A_GATE_INPUT:
                return join(first, false, second);
            case SetUpText.A_CAUSE:
                return cause(first, second);
            default:
                return NONE;
        }
    }

    // ---- what fails, the graph

    public int fails(int gate, int bits) {
        Plant plant = now.plant;
        int asked = gate == THE_TOP ? plant.topGate() : gate;
        if (!plant.hasGate(asked)) {
            return NONE;
        }
        if (!plant.hasBits(bits)) {
            return BAD;
        }
        return says(plant.tableOf(asked), bits) ? 1 : 0;
    }

    public int move(int part, int place) {
        Plant plant = now.plant;
        if (!plant.hasPart(part)) {
            return NONE;
        }
        if (!plant.hasPlace(place)) {
            return BAD;
        }
        return plant.putAt(part, place);
    }

    public int sift(int part) {
        Plant plant = now.plant;
        if (!plant.hasPart(part)) {
            return NONE;
        }
        if (plant.gates == 0) {
            return STATE;
        }
        int best = sifted(part);
        plant.putAt(part, best);
        return best;
    }

    private int sifted(int part) {
        trial.copyFrom(now.plant);
        long table = trial.topTable();
        int best = 0;
        int fewest = Graph.MOST_NODES + 1;
        for (int place = 0; place < trial.parts; place++) {
            trial.putAt(part, place);
            int many = graph.draw(trial, table);
            if (many < fewest) {
                fewest = many;
                best = place;
            }
        }
        return best;
    }

    public int at(int place) {
        return now.plant.hasPlace(place) ? now.plant.order[place] : NONE;
    }

    public int node(int node, int what) {
        if (now.plant.gates == 0) {
            return STATE;
        }
        graph.draw(now.plant, now.plant.topTable());
        return graph.ofNode(node, what);
    }

    public int told(int what) {
        Plant plant = now.plant;
        if (what < 0 || what > 8) {
            return NONE;
        }
        switch (what) {
            case 0:
                return plant.parts;
            case 1:
                return plant.gates;
            case 2:
                return plant.causes;
            case 3:
                return plant.topGate();
            default:
                return plant.gates == 0 ? STATE : toldOfTop(what);
        }
    }

    private int toldOfTop(int what) {
        Plant plant = now.plant;
        long table = plant.topTable();
        switch (what) {
            case 4:
                return graph.draw(plant, table);
            case 5:
                return sets.listCuts(table, plant.parts);
            case 6:
                return sets.listPaths(table, plant.parts);
            case 7:
                return chances.mostOf(plant, table);
            default:
                return sameness(table);
        }
    }

    private static int sameness(long table) {
        if (table == Plant.SAYS_EVER) {
            return 1;
        }
        return table == Plant.SAYS_NEVER ? -1 : 0;
    }

    public int cut(int k) {
        if (now.plant.gates == 0) {
            return STATE;
        }
        listCutsNow();
        return sets.bitsOf(k);
    }

    public int path(int k) {
        if (now.plant.gates == 0) {
            return STATE;
        }
        sets.listPaths(now.plant.topTable(), now.plant.parts);
        return sets.bitsOf(k);
    }

    private int listCutsNow() {
        return sets.listCuts(now.plant.topTable(), now.plant.parts);
    }

    // ---- odds

    public long chance(int part) {
        Plant plant = now.plant;
        if (!isLine(part) || plant.gates == 0) {
            return NO;
        }
        long above = chances.above(plant, plant.topTable(), Chances.AS_THEY_ARE, 0);
        return lowest(above, chances.below(plant), part);
    }

    public long given(int cause, boolean isSo, int part) {
        Plant plant = now.plant;
        if (!plant.hasCause(cause) || !isLine(part) || plant.gates == 0) {
            return NO;
        }
        int odds = isSo ? WHOLE : 0;
        long above = chances.above(plant, plant.topTable(), MOST_PARTS + cause, odds);
        return lowest(above, chances.below(plant), part);
    }

    public long weight(int part, int line) {
        Plant plant = now.plant;
        if (!plant.hasPart(part) || !isLine(line) || plant.gates == 0) {
            return NO;
        }
        long above = chances.weightAbove(plant, plant.topTable(), part);
        return lowest(above, chances.below(plant), line);
    }

    // ---- seen, means

    public int see(int bits, boolean isFailure) {
        if (bits == EMPTIES) {
            return now.seen.empty();
        }
        if (!now.plant.hasBits(bits)) {
            return BAD;
        }
        return now.seen.add(bits, isFailure ? 1 : 0);
    }

    public int fits(int gate, int what) {
        if (!now.plant.hasGate(gate) || what < 0 || what > 1) {
            return NONE;
        }
        int many = 0;
        int least = NOT_ANY;
        trial.copyFrom(now.plant);
        trial.kinds[gate] = SOME;
        for (int k = MOST_NEED; k >= 0; k--) {
            trial.needs[gate] = k;
            if (isAsSeen(trial.topTable())) {
                many++;
                least = k;
            }
        }
        return what == 0 ? many : least;
    }

    private boolean isAsSeen(long table) {
        Rows seen = now.seen;
        for (int i = 0; i < seen.size; i++) {
            if (says(table, seen.firsts[i]) != (seen.seconds[i] == 1)) {
                return false;
            }
        }
        return true;
    }

    public long mean(int line) {
        if (!isLine(line) || now.plant.gates == 0) {
            return NO;
        }
        int many = listCutsNow();
        if (many == 0) {
            return NO;
        }
        return lowest(sets.partsTogether(), many, line);
    }

    // ---- events, books

    public int event(int what, int n) {
        if (what == EMPTIES) {
            return now.events.empty();
        }
        boolean isOfPart = (what == 0 || what == 1) && now.plant.hasPart(n);
        boolean isOfGate = (what == 2 || what == 3) && now.plant.hasGate(n);
        if (!isOfPart && !isOfGate) {
            return NONE;
        }
        return now.events.add(what, n);
    }

    public int after(int what) {
        if (what < 0 || what > 3) {
            return NONE;
        }
        if (now.plant.gates == 0) {
            return STATE;
        }
        trial.copyFrom(now.plant);
        for (int i = 0; i < now.events.size; i++) {
            trial.undergo(now.events.firsts[i], now.events.seconds[i]);
        }
        long table = trial.topTable();
        switch (what) {
            case 0:
                return sets.listCuts(table, trial.parts);
            case 1:
                return graph.draw(trial, table);
            case 2:
                return says(table, 0) ? 1 : 0;
            default:
                return chances.mostOf(trial, table);
        }
    }

    public int book(int bits) {
        if (bits == EMPTIES) {
            return now.bookRows.empty();
        }
        if (!now.plant.hasBits(bits)) {
            return BAD;
        }
        return now.bookRows.add(bits, 0);
    }

    public int looked() {
        if (now.plant.gates == 0) {
            return STATE;
        }
        listCutsNow();
        for (int i = 0; i < now.bookRows.size; i++) {
            if (!sets.has(now.bookRows.firsts[i])) {
                return i;
            }
        }
        return NOT_ANY;
    }

    // ---- judging, the image, tapes

    public int judge(int tape, int i) {
        Tape row = tapeOf(tape);
        if (row == null) {
            return NONE;
        }
        if (now.plant.gates == 0) {
            return STATE;
        }
        if (row.sort != Tape.EMPTY && row.sort != Tape.BYTES) {
            return CAST;
        }
        listCutsNow();
        for (int k = 0; k < sets.size; k++) {
            // A tape that holds nothing has the length 0, so it ends at once as a row would.
            if (i < 0 || i >= row.length - k) {
                return ENDED_EARLY + k;
            }
            if (row.items[i + k] != sets.bits[k]) {
                return k;
            }
        }
        return NOT_ANY;
    }

    public int image() {
        saved.copyFrom(now);
        hasImage = true;
        return now.plant.gates;
    }

    public int undo() {
        if (!hasImage) {
            return STATE;
        }
        now.copyFrom(saved);
        return now.plant.gates;
    }

    public int count(int what) {
        switch (what) {
            case 0:
                return now.seen.size;
            case 1:
                return now.events.size;
            case 2:
                return now.bookRows.size;
            case 3:
                return text.size;
            default:
                return BAD;
        }
    }

    public int tape(int tape, int sort, int n) {
        Tape row = tapeOf(tape);
        if (row == null) {
            return NONE;
        }
        if (sort == Tape.EMPTY) {
            row.become(Tape.EMPTY, 0);
            return 1;
        }
        if (sort < Tape.BYTES || sort > Tape.BOOLEANS || n > Tape.MOST_ITEMS) {
            return BAD;
        }
        if (n < 0) {
            return SIZE;
        }
        row.become(sort, n);
        return 1;
    }

    public int item(int tape, int i, long v) {
        Tape row = tapeOf(tape);
        if (row == null) {
            return NONE;
        }
        if (row.sort == Tape.EMPTY) {
            return NOTHING;
        }
        if (!row.hasPlace(i)) {
            return PLACE;
        }
        row.items[i] = row.asItem(v);
        return 1;
    }

    public long peek(int tape, int i) {
        Tape row = tapeOf(tape);
        if (row == null || !row.hasPlace(i)) {
            return NO;
        }
        return row.items[i];
    }

    public int shift(int tape, int i, int other, int j, int n) {
        Tape from = tapeOf(tape);
        Tape to = tapeOf(other);
        if (from == null || to == null) {
            return NONE;
        }
        if (from.sort == Tape.EMPTY || to.sort == Tape.EMPTY) {
            return NOTHING;
        }
        if (from.sort != to.sort) {
            return CAST;
        }
        if (!from.hasRun(i, n) || !to.hasRun(j, n)) {
            return PLACE;
        }
        System.arraycopy(from.items, i, to.items, j, n);
        return n;
    }

    private Tape tapeOf(int n) {
        return n >= 0 && n < tapes.length ? tapes[n] : null;
    }

    // ---- what numbers may be

    private static boolean isOdds(int n) {
        return n >= 0 && n <= WHOLE;
    }

    private static boolean isKind(int n) {
        return n >= ALL && n <= SOME;
    }

    private static boolean isNeed(int n) {
        return n >= 0 && n <= MOST_NEED;
    }

    private static boolean isLine(int n) {
        return n == 0 || n == 1;
    }

    private static boolean says(long table, int bits) {
        return ((table >>> bits) & 1L) != 0L;
    }

    /** One side of a fraction in lowest terms; what stands below is above 0. */
    private static long lowest(long above, long below, int line) {
        long divisor = commonDivisor(above, below);
        long asked = line == 0 ? above : below;
        return divisor > 0L ? asked / divisor : asked;
    }

    private static long commonDivisor(long above, long below) {
        long a = below;
        long b = above;
        // Euclid's way over two longs ends within a hundred steps.
        for (int step = 0; step < 200 && b != 0L; step++) {
            long rest = a % b;
            a = b;
            b = rest;
        }
        return a;
    }

    /** All that the image holds. */
    private static final class State {
        final Plant plant = new Plant();
        final Rows seen = new Rows(MOST_SEEN);
        final Rows events = new Rows(MOST_EVENTS);
        final Rows bookRows = new Rows(MOST_BOOK);

        void copyFrom(State other) {
            plant.copyFrom(other.plant);
            seen.copyFrom(other.seen);
            events.copyFrom(other.events);
            bookRows.copyFrom(other.bookRows);
        }
    }

    /** Rows of two numbers, told by hand, up to a limit. */
    private static final class Rows {
        final int[] firsts;
        final int[] seconds;
        int size;

        Rows(int most) {
            int length = Math.max(most, 0);
            firsts = new int[length];
            seconds = new int[length];
        }

        int add(int first, int second) {
            if (size >= firsts.length) {
                return FULL;
            }
            firsts[size] = first;
            seconds[size] = second;
            size++;
            return size;
        }

        int empty() {
            size = 0;
            return 0;
        }

        void copyFrom(Rows other) {
            size = Math.min(other.size, firsts.length);
            System.arraycopy(other.firsts, 0, firsts, 0, size);
            System.arraycopy(other.seconds, 0, seconds, 0, size);
        }
    }

    /**
     * Parts, gates, causes, the top and the order.
     *
     * <p>A function of the parts is held as a table of 64 bits, bit s being what it says of the
     * set of parts with bits s. A part that isn't there is never an input, so a table says the
     * same with it and without it, and all tables can have 64 bits however few parts there are.
     */
    private static final class Plant {
        static final int LAST_GATE = -1;
        static final long SAYS_NEVER = 0L, SAYS_EVER = -1L;
        private static final long[] PART_TABLES = {
            0xAAAAAAAAAAAAAAAAL, 0xCCCCCCCCCCCCCCCCL, 0xF0F0F0F0F0F0F0F0L,
            0xFF00FF00FF00FF00L, 0xFFFF0000FFFF0000L, 0xFFFFFFFF00000000L
        };

        final int[] partOdds = new int[MOST_PARTS];
        final int[] order = new int[MOST_PARTS];
        int parts;
        final int[] kinds = new int[MOST_GATES];
        final int[] needs = new int[MOST_GATES];
        final int[] inputs = new int[MOST_GATES * MOST_INPUTS];
        final int[] inputCounts = new int[MOST_GATES];
        int gates;
        int topByHand = LAST_GATE;
        final int[] causeOdds = new int[MOST_CAUSES];
        final int[] causeBits = new int[MOST_CAUSES];
        int causes;
        private final long[] gateTables = new long[MOST_GATES];
        private final long[] atLeast = new long[MOST_INPUTS + 1];

        boolean hasPart(int n) {
            return n >= 0 && n < parts;
        }

        /** Each part stands at one place of the order, so there are as many of both. */
        boolean hasPlace(int n) {
            return hasPart(n);
        }

        boolean hasGate(int n) {
            return n >= 0 && n < gates;
        }

        boolean hasCause(int n) {
            return n >= 0 && n < causes;
        }

        boolean hasBits(int bits) {
            return bits >= 0 && bits < 1 << parts;
        }

        int addPart(int odds) {
            if (parts >= MOST_PARTS) {
                return FULL;
            }
            partOdds[parts] = odds;
            order[parts] = parts;
            parts++;
            return parts - 1;
        }

        int addGate(int kind, int need) {
            if (gates >= MOST_GATES) {
                return FULL;
            }
            kinds[gates] = kind;
            needs[gates] = need;
            inputCounts[gates] = 0;
            gates++;
            return gates - 1;
        }

        int addInput(int gate, int input) {
            int many = inputCounts[gate];
            if (many >= MOST_INPUTS) {
                return FULL;
            }
            inputs[gate * MOST_INPUTS + many] = input;
            inputCounts[gate] = many + 1;
            return many + 1;
        }

        int addCause(int odds, int bits) {
            if (causes >= MOST_CAUSES) {
                return FULL;
            }
            causeOdds[causes] = odds;
            causeBits[causes] = bits;
            causes++;
            return causes - 1;
        }

        int ofPart(int part, int what) {
            if (!hasPart(part)) {
                return NONE;
            }
            switch (what) {
                case 0:
                    return partOdds[part];
                case 1:
                    return placeOf(part);
                default:
                    return NONE;
            }
        }

        int ofGate(int gate, int what) {
            if (!hasGate(gate) || what < 0 || what >= 3 + MOST_INPUTS) {
                return NONE;
            }
            switch (what) {
                case 0:
                    return kinds[gate];
                case 1:
                    return needs[gate];
                case 2:
                    return inputCounts[gate];
                default:
                    int n = what - 3;
                    return n < inputCounts[gate] ? inputs[gate * MOST_INPUTS + n] : NONE;
            }
        }

        int ofCause(int cause, int what) {
            if (!hasCause(cause)) {
                return NONE;
            }
            switch (what) {
                case 0:
                    return causeOdds[cause];
                case 1:
                    return causeBits[cause];
                default:
                    return NONE;
            }
        }

        int topGate() {
            if (gates == 0) {
                return NOT_ANY;
            }
            return topByHand == LAST_GATE ? gates - 1 : topByHand;
        }

        int placeOf(int part) {
            for (int place = 0; place < parts; place++) {
                if (order[place] == part) {
                    return place;
                }
            }
            return NONE;
        }

        /** Part and place are there. Answers the place that it had. */
        int putAt(int part, int place) {
            int was = placeOf(part);
            for (int i = was; i >= 0 && i < place; i++) {
                order[i] = order[i + 1];
            }
            for (int i = was; i > place; i--) {
                order[i] = order[i - 1];
            }
            order[place] = part;
            return was;
        }

        /** What an event does. It was told by another call, so its part or gate is looked at again. */
        void undergo(int what, int n) {
            if (what <= 1 && hasPart(n)) {
                partOdds[n] = what == 0 ? 0 : WHOLE;
            } else if (what >= 2 && hasGate(n)) {
                kinds[n] = what == 2 ? ALL : ANY;
            }
        }

        long topTable() {
            return tableOf(topGate());
        }

        long tableOf(int gate) {
            if (!hasGate(gate)) {
                return SAYS_NEVER;
            }
            // The inputs of a gate have less numbers, so their tables stand when it comes.
            for (int g = 0; g <= gate; g++) {
                gateTables[g] = gateTable(g);
            }
            return gateTables[gate];
        }

        /** All three kinds are one: a gate fails if at least so and so many inputs do. */
        private long gateTable(int gate) {
            int many = inputCounts[gate];
            countInputs(gate, many);
            int needed = needs[gate];
            if (kinds[gate] == ALL) {
                needed = many;
            } else if (kinds[gate] == ANY) {
                needed = 1;
            }
            return needed < atLeast.length ? atLeast[needed] : SAYS_NEVER;
        }

        private void countInputs(int gate, int many) {
            atLeast[0] = SAYS_EVER;
            for (int n = 1; n < atLeast.length; n++) {
                atLeast[n] = SAYS_NEVER;
            }
            for (int i = 0; i < many; i++) {
                long table = inputTable(inputs[gate * MOST_INPUTS + i]);
                for (int n = atLeast.length - 1; n > 0; n--) {
                    atLeast[n] |= atLeast[n - 1] & table;
                }
            }
        }

        private long inputTable(int input) {
            int gate = input - GATE_MARK;
            if (gate >= 0) {
                return gate < gates ? gateTables[gate] : SAYS_NEVER;
            }
            return input >= 0 && input < PART_TABLES.length ? PART_TABLES[input] : SAYS_NEVER;
        }

        /** Nothing hangs on a part that isn't there: the function stays as it is. */
        static long ifWorks(long table, int part) {
            if (part < 0 || part >= PART_TABLES.length) {
                return table;
            }
            long works = table & ~PART_TABLES[part];
            return works | works << (1 << part);
        }

        static long ifFails(long table, int part) {
            if (part < 0 || part >= PART_TABLES.length) {
                return table;
            }
            long failing = table & PART_TABLES[part];
            return failing | failing >>> (1 << part);
        }

        void copyFrom(Plant other) {
            System.arraycopy(other.partOdds, 0, partOdds, 0, MOST_PARTS);
            System.arraycopy(other.order, 0, order, 0, MOST_PARTS);
            parts = other.parts;
            System.arraycopy(other.kinds, 0, kinds, 0, MOST_GATES);
            System.arraycopy(other.needs, 0, needs, 0, MOST_GATES);
            System.arraycopy(other.inputs, 0, inputs, 0, MOST_GATES * MOST_INPUTS);
            System.arraycopy(other.inputCounts, 0, inputCounts, 0, MOST_GATES);
            gates = other.gates;
            topByHand = other.topByHand;
            System.arraycopy(other.causeOdds, 0, causeOdds, 0, MOST_CAUSES);
            System.arraycopy(other.causeBits, 0, causeBits, 0, MOST_CAUSES);
            causes = other.causes;
        }
    }

    /** The graph of decisions, drawn anew whenever it is asked for. */
    private static final class Graph {
        // Of six parts no order needs more than 1 + 2 + 4 + 8 + 12 + 2 nodes.
        static final int MOST_NODES = 64;

        private int size;
        private final long[] tables = new long[MOST_NODES];
        private final int[] nodeParts = new int[MOST_NODES];
        private final int[] works = new int[MOST_NODES];
        private final int[] failing = new int[MOST_NODES];

        /** Answers how many nodes there are. */
        int draw(Plant plant, long table) {
            size = 0;
            meet(plant, table, 0);
            return size;
        }

        /** The table hangs on no part ahead of the place; each level goes to a later place. */
        private int meet(Plant plant, long table, int place) {
            if (table == Plant.SAYS_NEVER) {
                return NEVER;
            }
            if (table == Plant.SAYS_EVER) {
                return EVER;
            }
            int known = met(table);
            if (known >= 0) {
                return known;
            }
            int first = firstPlace(plant, table, place);
            if (first >= plant.parts || size >= MOST_NODES) {
                return NEVER;
            }
            int part = plant.order[first];
            int node = size;
            size++;
            tables[node] = table;
            nodeParts[node] = part;
            works[node] = meet(plant, Plant.ifWorks(table, part), first + 1);
            failing[node] = meet(plant, Plant.ifFails(table, part), first + 1);
            return node;
        }

        private int met(long table) {
            for (int node = 0; node < size; node++) {
                if (tables[node] == table) {
                    return node;
                }
            }
            return NONE;
        }

        private static int firstPlace(Plant plant, long table, int from) {
            for (int place = from; place < plant.parts; place++) {
                int part = plant.order[place];
                if (Plant.ifWorks(table, part) != Plant.ifFails(table, part)) {
                    return place;
                }
            }
            return plant.parts;
        }

        int ofNode(int node, int what) {
            if (node < 0 || node >= size) {
                return NONE;
            }
            switch (what) {
                case 0:
                    return nodeParts[node];
                case 1:
                    return works[node];
                case 2:
                    return failing[node];
                default:
                    return NONE;
            }
        }
    }

    /** Cuts or paths, listed anew whenever they are asked for. */
    private static final class LeastSets {
        final int[] bits = new int[MOST_SETS];
        int size;

        /** Answers how many there are. */
        int listCuts(long table, int parts) {
            return list(table, parts);
        }

        int listPaths(long table, int parts) {
            return list(keepsUp(table), parts);
        }

        /** The table of the sets by which the top doesn't fail, if all others do. */
        private static long keepsUp(long table) {
            long up = 0L;
            for (int set = 0; set < MOST_SETS; set++) {
                if (!says(table, MOST_SETS - 1 - set)) {
                    up |= 1L << set;
                }
            }
            return up;
        }

        private int list(long table, int parts) {
            size = 0;
            for (int many = 0; many <= parts; many++) {
                for (int set = 0; set < 1 << parts; set++) {
                    if (Integer.bitCount(set) == many && isLeast(table, set, parts)) {
                        keep(set);
                    }
                }
            }
            return size;
        }

        private void keep(int set) {
            if (size < bits.length) {
                bits[size] = set;
                size++;
            }
        }

        private static boolean isLeast(long table, int set, int parts) {
            if (!says(table, set)) {
                return false;
            }
            for (int part = 0; part < parts; part++) {
                int less = set & ~(1 << part);
                if (less != set && says(table, less)) {
                    return false;
                }
            }
            return true;
        }

        int bitsOf(int k) {
            return k >= 0 && k < size ? bits[k] : NONE;
        }

        boolean has(int set) {
            for (int k = 0; k < size; k++) {
                if (bits[k] == set) {
                    return true;
                }
            }
            return false;
        }

        int partsTogether() {
            int many = 0;
            for (int k = 0; k < size; k++) {
                many += Integer.bitCount(bits[k]);
            }
            return many;
        }
    }

    /**
     * Exact odds, over 100 to the number of parts and causes: at most 100 to the ninth, which a
     * long holds.
     */
    private static final class Chances {
        static final int AS_THEY_ARE = -1;
        private final long[] likely = new long[MOST_SETS];

        long below(Plant plant) {
            long product = 1L;
            for (int i = 0; i < plant.parts + plant.causes; i++) {
                product *= WHOLE;
            }
            return product;
        }

        /** One source (a part, or MOST_PARTS and a cause) has other odds, if it is told. */
        long above(Plant plant, long table, int source, int otherOdds) {
            int many = 1 << plant.parts;
            for (int set = 0; set < many; set++) {
                likely[set] = 0L;
            }
            likely[0] = 1L;
            for (int p = 0; p < plant.parts; p++) {
                spread(1 << p, p == source ? otherOdds : plant.partOdds[p], many);
            }
            for (int c = 0; c < plant.causes; c++) {
                boolean isOther = MOST_PARTS + c == source;
                spread(plant.causeBits[c], isOther ? otherOdds : plant.causeOdds[c], many);
            }
            return sumOver(table, many);
        }

        /** Greater sets go first: what they receive has had its turn by then. */
        private void spread(int broken, int odds, int many) {
            for (int set = many - 1; set >= 0; set--) {
                long moved = likely[set] * odds;
                likely[set] = likely[set] * WHOLE - moved;
                int with = set | broken;
                if (with < many) {
                    likely[with] += moved;
                }
            }
        }

        private long sumOver(long table, int many) {
            long sum = 0L;
            for (int set = 0; set < many; set++) {
                if (says(table, set)) {
                    sum += likely[set];
                }
            }
            return sum;
        }

        long weightAbove(Plant plant, long table, int part) {
            return above(plant, table, part, WHOLE) - above(plant, table, part, 0);
        }

        int mostOf(Plant plant, long table) {
            int most = NOT_ANY;
            long greatest = -1L;
            for (int part = 0; part < plant.parts; part++) {
                long weight = weightAbove(plant, table, part);
                if (weight > greatest) {
                    greatest = weight;
                    most = part;
                }
            }
            return most;
        }
    }

    /** The text of a set-up and the clauses that it has. */
    private static final class SetUpText {
        static final int A_PART = 0, A_GATE = 1, A_PART_INPUT = 2, A_GATE_INPUT = 3, A_CAUSE = 4;
        private static final int MOST_SIGNS = 100, MOST_CLAUSES = 16;
        private static final int MOST_OF_CAUSE = 4, ODDS_DIGITS = 3;

        int size;
        int at;
        int clauses;
        final int[] sorts = new int[MOST_CLAUSES];
        final int[] firsts = new int[MOST_CLAUSES];
        final int[] seconds = new int[MOST_CLAUSES];
        private final byte[] signs = new byte[MOST_SIGNS];

        int addSign(int sign) {
            if (size >= MOST_SIGNS) {
                return FULL;
            }
            signs[size] = (byte) sign;
            size++;
            return size;
        }

        /** A sign is passed only if a set-up can begin so: without one, at is the fault. */
        boolean parse() {
            at = 0;
            clauses = 0;
            for (int i = 0; i < MOST_CLAUSES; i++) {
                if (!parseClause()) {
                    return false;
                }
                if (at >= size) {
                    return true;
                }
                if (i == MOST_CLAUSES - 1 || !passes(';')) {
                    return false;
                }
            }
            return false;
        }

        private boolean parseClause() {
            if (passes('p')) {
                return keep(A_PART, digits(ODDS_DIGITS), 0);
            }
            if (passes('a')) {
                return keep(A_GATE, ALL, 0);
            }
            if (passes('o')) {
                return keep(A_GATE, ANY, 0);
            }
            if (passes('s')) {
                return keep(A_GATE, SOME, digits(1));
            }
            if (passes('j')) {
                return parseInput();
            }
            return passes('c') && parseCause();
        }

        private boolean parseInput() {
            int gate = digits(1);
            if (gate < 0) {
                return false;
            }
            if (passes('p')) {
                return keep(A_PART_INPUT, gate, digits(1));
            }
            return passes('g') && keep(A_GATE_INPUT, gate, digits(1));
        }

        private boolean parseCause() {
            int odds = digits(ODDS_DIGITS);
            if (odds < 0) {
                return false;
            }
            int bits = 0;
            for (int i = 0; i < MOST_OF_CAUSE && passes('p'); i++) {
                int part = digits(1);
                if (part < 0) {
                    return false;
                }
                bits |= 1 << part;
            }
            // Each part gives a bit, so without bits there was none.
            return bits != 0 && keep(A_CAUSE, odds, bits);
        }

        private boolean passes(int sign) {
            if (at >= size || signs[at] != sign) {
                return false;
            }
            at++;
            return true;
        }

        /** A number of one digit to so many; below 0 if none stands there. */
        private int digits(int most) {
            int number = -1;
            for (int i = 0; i < most && at < size && isDigit(signs[at]); i++) {
                number = Math.max(number, 0) * 10 + signs[at] - '0';
                at++;
            }
            return number;
        }

        private static boolean isDigit(int sign) {
            return sign >= '0' && sign <= '9';
        }

        private boolean keep(int sort, int first, int second) {
            if (first < 0 || second < 0 || clauses >= MOST_CLAUSES) {
                return false;
            }
            sorts[clauses] = sort;
            firsts[clauses] = first;
            seconds[clauses] = second;
            clauses++;
            return true;
        }
    }

    /** A row of items of one sort, or nothing; all sorts are held as longs. */
    private static final class Tape {
        static final int EMPTY = -1, BYTES = 0, SHORTS = 1, INTS = 2, LONGS = 3, BOOLEANS = 4;
        static final int MOST_ITEMS = 60;

        int sort = EMPTY;
        int length;
        final long[] items = new long[MOST_ITEMS];

        void become(int newSort, int newLength) {
            sort = newSort;
            length = newLength;
            for (int i = 0; i < MOST_ITEMS; i++) {
                items[i] = 0L;
            }
        }

        boolean hasPlace(int i) {
            return i >= 0 && i < length;
        }

        boolean hasRun(int from, int n) {
            return from >= 0 && n >= 0 && n <= length && from <= length - n;
        }

        long asItem(long v) {
            switch (sort) {
                case BYTES:
                    return (byte) v;
                case SHORTS:
                    return (short) v;
                case INTS:
                    return (int) v;
                case LONGS:
                    return v;
                default:
                    return v != 0L ? 1L : 0L;
            }
        }
    }
}
