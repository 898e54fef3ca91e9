/** Promises 13 to 20 at their edges: a test for each sentence that names one. */
public final class EdgesGraphTest {
    private static final Edges E = new Edges("EdgesGraphTest");
    private static final Edges.Setup TWENTY_CUTS = () -> Plants.someOfSix(3);
    private static final Edges.Setup TWENTY_PATHS = () -> Plants.someOfSix(4);
    private static final Edges.Setup EVER_THREE = () -> Plants.oneGate(3, 2, 0);
    private static final Edges.Setup NEVER_THREE = () -> Plants.oneGate(3, 2, 4);
    private static final Edges.Setup EVER_NO_PARTS = () -> Plants.oneGate(0, 0, 0);
    private static final Edges.Setup NEVER_NO_PARTS = () -> Plants.oneGate(0, 1, 0);

    public static void main(String[] args) {
        failsWithoutInputs();
        failsBySome();
        failsOfEachGate();
        failsOfTop();
        failsNone();
        failsTakesBits();
        failsBadBits();
        moveToAllPlaces();
        moveOfOne();
        moveNone();
        moveBad();
        orderLastThatComes();
        siftTakesTheFewest();
        siftTakesTheLeastOfSeveral();
        siftTakesTheLastPlace();
        siftOfOne();
        siftNone();
        siftState();
        atNone();
        nodeOfChains();
        nodeSkipsWhatItDoesNotHangOn();
        nodeIsMetOnce();
        nodeState();
        nodeNone();
        nodeOfNeverAndEver();
        toldNone();
        toldState();
        toldOfNoParts();
        toldSameness();
        toldMostOfSeveral();
        cutsOfNeverAndEver();
        cutsTwentyInOrder();
        cutState();
        cutNone();
        pathsOfNeverAndEver();
        pathsTwentyInOrder();
        pathState();
        pathNone();
        E.finish();
    }

    /** 13, "ALL: all INPUTS do (none: so); ANY: one of them does at least; SOME: k of them". */
    private static void failsWithoutInputs() {
        for (int kind = 0; kind <= 2; kind++) {
            for (int k = 0; k <= 5; k++) {
                FaultGraph x = Plants.ofParts(2);
                x.gate(kind, k);
                boolean isSo = kind == 0 || kind == 2 && k == 0;
                E.due("13 kind " + kind + ", k " + k + ", no inputs, no part fails", x.fails(0, 0), isSo ? 1 : 0);
                E.due("13 kind " + kind + ", k " + k + ", no inputs, all parts fail", x.fails(0, 3), isSo ? 1 : 0);
            }
        }
    }

    /** 13: of 1 to 4 INPUTS of which none to all FAIL, for each KIND and k. */
    private static void failsBySome() {
        for (int many = 1; many <= 4; many++) {
            for (int k = 0; k <= 5; k++) {
                FaultGraph x = Plants.oneGate(many, 2, k);
                for (int bits = 0; bits < 1 << many; bits++) {
                    int failing = Integer.bitCount(bits);
                    x.turn(0, 2, k);
                    E.due("13 SOME " + k + " of " + many + ", bits " + bits, x.fails(0, bits), failing >= k ? 1 : 0);
                    x.turn(0, 0, k);
                    E.due("13 ALL of " + many + ", bits " + bits, x.fails(0, bits), failing == many ? 1 : 0);
                    x.turn(0, 1, k);
                    E.due("13 ANY of " + many + ", bits " + bits, x.fails(0, bits), failing >= 1 ? 1 : 0);
                }
            }
        }
    }

    /** 13: the least and the greatest GATE, each told alone, whatever TOP is. */
    private static void failsOfEachGate() {
        FaultGraph x = Plants.ofParts(6);
        for (int g = 0; g < 8; g++) {
            x.gate(1, 0);
            if (g > 0) {
                x.join(g, false, g - 1);
            }
            if (g < 6) {
                x.join(g, true, g);
            }
        }
        for (int g = 0; g < 8; g++) {
            for (int p = 0; p < 6; p++) {
                E.due("13 gate " + g + " by part " + p, x.fails(g, 1 << p), p <= g ? 1 : 0);
            }
        }
    }

    /** 13: "gate -1: TOP", the last or by hand. */
    private static void failsOfTop() {
        FaultGraph x = Plants.SMALL.make();
        E.due("13 top is gate 1", x.fails(-1, 4), 1);
        x.top(0);
        E.due("13 top is gate 0", x.fails(-1, 4), 0);
        E.due("13 gate 1 is as it was", x.fails(1, 4), 1);
        E.due("13 top, both", x.fails(-1, 3), 1);
        E.still("13 top of eight", Plants.FULL, 1, y -> y.fails(-1, 32));
    }

    /** 13: "NONE: gate", which is named ahead of BAD; of no GATES there is no TOP either. */
    private static void failsNone() {
        for (Edges.Setup setup : Plants.ALL) {
            int gates = setup.make().told(1);
            for (int gate : gates == 0 ? Edges.outside(0, -1) : Edges.outsideBut(0, gates - 1, -1)) {
                E.still("13 NONE: fails(" + gate + ", 0)", setup, Edges.NONE, x -> x.fails(gate, 0));
                E.still("13 NONE: fails(" + gate + ", -1)", setup, Edges.NONE, x -> x.fails(gate, -1));
                E.still("13 NONE: fails(" + gate + ", 64)", setup, Edges.NONE, x -> x.fails(gate, 64));
            }
        }
        E.still("13 NONE: fails(-1, 0)", Plants.NEW, Edges.NONE, x -> x.fails(-1, 0));
        E.still("13 NONE: fails(-1, 0)", Plants.NO_GATES, Edges.NONE, x -> x.fails(-1, 0));
    }

    /** 13, BITS: all that PARTS there are can have. */
    private static void failsTakesBits() {
        for (int parts = 0; parts <= 6; parts++) {
            FaultGraph x = Plants.oneGate(parts, 1, 0);
            for (int bits = 0; bits < 1 << parts; bits++) {
                int isSo = (bits & 15) != 0 ? 1 : 0;
                E.due("13 of " + parts + " parts fails(0, " + bits + ")", x.fails(0, bits), isSo);
                E.due("13 of " + parts + " parts fails(-1, " + bits + ")", x.fails(-1, bits), isSo);
            }
        }
    }

    /** 13: "BAD: bits". */
    private static void failsBadBits() {
        for (int parts = 0; parts <= 6; parts++) {
            int many = parts;
            Edges.Setup setup = () -> Plants.oneGate(many, 1, 0);
            for (int bits : Edges.outside(0, (1 << parts) - 1)) {
                E.still("13 BAD: of " + parts + " parts fails(0, " + bits + ")", setup, Edges.BAD, x -> x.fails(0, bits));
                E.still("13 BAD: of " + parts + " parts fails(-1, " + bits + ")", setup, Edges.BAD, x -> x.fails(-1, bits));
            }
        }
    }

    private static void order(String name, FaultGraph x, int... parts) {
        for (int place = 0; place < parts.length; place++) {
            E.due(name + ": at(" + place + ")", x.at(place), parts[place]);
            E.due(name + ": place of " + parts[place], x.of(0, parts[place], 1), place);
        }
        E.due(name + ": no more places", x.at(parts.length), Edges.NONE);
    }

    /** 14: "A PART comes to a place of ORDER, all others keep their order": from all places to all. */
    private static void moveToAllPlaces() {
        for (int part = 0; part < 6; part++) {
            for (int place = 0; place < 6; place++) {
                FaultGraph x = Plants.ofParts(6);
                E.due("14 move(" + part + ", " + place + ")", x.move(part, place), part);
                int[] order = new int[6];
                int other = 0;
                for (int i = 0; i < 6; i++) {
                    other += other == part ? 1 : 0;
                    order[i] = i == place ? part : other++;
                }
                order("14 move(" + part + ", " + place + ")", x, order);
                E.due("14 and back", x.move(part, part), place);
                order("14 back", x, 0, 1, 2, 3, 4, 5);
            }
        }
    }

    /** 14: of one PART there is one place. */
    private static void moveOfOne() {
        Edges.Setup one = () -> Plants.ofParts(1);
        E.still("14 move(0, 0) of one", one, 0, x -> x.move(0, 0));
        E.still("14 BAD: move(0, 1) of one", one, Edges.BAD, x -> x.move(0, 1));
        E.still("14 NONE: move(1, 0) of one", one, Edges.NONE, x -> x.move(1, 0));
    }

    /** 14: "NONE: part", which is named ahead of BAD. */
    private static void moveNone() {
        for (Edges.Setup setup : Plants.ALL) {
            for (int part : Edges.outside(0, setup.make().told(0) - 1)) {
                E.still("14 NONE: move(" + part + ", 0)", setup, Edges.NONE, x -> x.move(part, 0));
                E.still("14 NONE: move(" + part + ", -1)", setup, Edges.NONE, x -> x.move(part, -1));
                E.still("14 NONE: move(" + part + ", 6)", setup, Edges.NONE, x -> x.move(part, 6));
            }
        }
    }

    /** 14: "BAD: place". */
    private static void moveBad() {
        for (Edges.Setup setup : new Edges.Setup[] {Plants.NO_GATES, Plants.SMALL, Plants.FULL}) {
            int parts = setup.make().told(0);
            for (int place : Edges.outside(0, parts - 1)) {
                E.still("14 BAD: move(0, " + place + ")", setup, Edges.BAD, x -> x.move(0, place));
                E.still("14 BAD: move of the last to " + place, setup, Edges.BAD, x -> x.move(parts - 1, place));
            }
        }
    }

    /** 14 and 2: "one that comes stands last", wherever the others were moved to. */
    private static void orderLastThatComes() {
        FaultGraph x = new FaultGraph();
        for (int p = 0; p < 6; p++) {
            x.part(1);
            E.due("14 part " + p + " stands last", x.of(0, p, 1), p);
            E.due("14 and goes to the front", x.move(p, 0), p);
        }
        order("14 the other way round", x, 5, 4, 3, 2, 1, 0);
    }

    /** Two of part 0, part 1, part 2 and of "parts 0 and 3 both": fewest nodes with part 0 last. */
    private static FaultGraph zeroLast() {
        FaultGraph x = Plants.ofParts(4);
        x.gate(2, 2);
        x.join(0, true, 0);
        x.join(0, true, 3);
        x.gate(2, 2);
        x.join(1, true, 1);
        x.join(1, false, 0);
        x.join(1, true, 0);
        x.join(1, true, 2);
        return x;
    }

    /** 15: of all places the one told is as good as any, and better than all of less number. */
    private static void siftTakesTheFewest() {
        Edges.Setup[] setups = {Plants.SMALL, Plants.FULL, TWENTY_CUTS, EdgesGraphTest::zeroLast};
        for (Edges.Setup setup : setups) {
            int parts = setup.make().told(0);
            for (int part = 0; part < parts; part++) {
                int fewest = 99;
                int best = -1;
                for (int place = 0; place < parts; place++) {
                    FaultGraph x = setup.make();
                    x.move(part, place);
                    if (x.told(4) < fewest) {
                        fewest = x.told(4);
                        best = place;
                    }
                }
                FaultGraph x = setup.make();
                E.due("15 sift(" + part + ")", x.sift(part), best);
                E.due("15 it came there", x.of(0, part, 1), best);
                E.due("15 with so many nodes", x.told(4), fewest);
                E.due("15 and stays there", x.sift(part), best);
            }
        }
    }

    /** 15: "of several the least": THE GRAPH that is NEVER or EVER, and PARTS that are all alike. */
    private static void siftTakesTheLeastOfSeveral() {
        Edges.Setup[] alike = {EVER_THREE, NEVER_THREE, () -> Plants.oneGate(3, 0, 0), () -> Plants.oneGate(3, 2, 2)};
        for (Edges.Setup setup : alike) {
            for (int part = 0; part < 3; part++) {
                FaultGraph x = setup.make();
                E.due("15 sift(" + part + ") of parts that are alike", x.sift(part), 0);
                E.due("15 it stands first", x.at(0), part);
                E.due("15 the others keep their order", x.at(1), part == 0 ? 1 : 0);
                E.due("15 the others keep their order", x.at(2), part == 2 ? 1 : 2);
            }
        }
        FaultGraph x = Plants.oneGate(6, 0, 0);
        E.due("15 a part on which nothing hangs", x.sift(5), 0);
    }

    /** 15: the last place, if that alone has fewest. */
    private static void siftTakesTheLastPlace() {
        FaultGraph x = zeroLast();
        E.due("15 ahead of it", x.told(4), 6);
        E.due("15 sift(0)", x.sift(0), 3);
        E.due("15 behind it", x.told(4), 5);
        order("15 it stands last", x, 1, 2, 3, 0);
    }

    /** 15: of one PART there is one place. */
    private static void siftOfOne() {
        Edges.Setup one = () -> Plants.oneGate(1, 0, 0);
        E.still("15 sift(0) of one", one, 0, x -> x.sift(0));
        E.still("15 NONE: sift(1) of one", one, Edges.NONE, x -> x.sift(1));
    }

    /** 15: "NONE", which is named ahead of STATE. */
    private static void siftNone() {
        for (Edges.Setup setup : Plants.ALL) {
            for (int part : Edges.outside(0, setup.make().told(0) - 1)) {
                E.still("15 NONE: sift(" + part + ")", setup, Edges.NONE, x -> x.sift(part));
            }
        }
    }

    /** 15: "STATE: no GATES". */
    private static void siftState() {
        for (int part = 0; part < 3; part++) {
            int n = part;
            E.still("15 STATE: sift(" + n + ")", Plants.NO_GATES, Edges.STATE, x -> x.sift(n));
        }
    }

    /** 16: "The PART at a place of ORDER. NONE." */
    private static void atNone() {
        for (Edges.Setup setup : Plants.ALL) {
            for (int place : Edges.outside(0, setup.make().told(0) - 1)) {
                E.still("16 NONE: at(" + place + ")", setup, Edges.NONE, x -> x.at(place));
            }
        }
        E.still("16 the first place", Plants.FULL, 5, x -> x.at(0));
        E.still("16 the last place", Plants.FULL, 3, x -> x.at(5));
        E.still("16 the last of three places", Plants.SMALL, 0, x -> x.at(2));
    }

    /** 17: six NODES, one for each PART, the least and the last of them. */
    private static void nodeOfChains() {
        for (int kind = 0; kind <= 1; kind++) {
            int of = kind;
            Edges.Setup chain = () -> Plants.allOfSix(of);
            E.still("17 six nodes", chain, 6, x -> x.told(4));
            for (int node = 0; node < 6; node++) {
                int n = node;
                int next = n < 5 ? n + 1 : kind == 0 ? Edges.EVER : Edges.NEVER;
                E.still("17 part of node " + n, chain, n, x -> x.node(n, 0));
                E.still("17 WORKS of node " + n, chain, kind == 0 ? Edges.NEVER : next, x -> x.node(n, 1));
                E.still("17 FAILS of node " + n, chain, kind == 0 ? next : Edges.EVER, x -> x.node(n, 2));
            }
            E.still("17 NONE: node(6, 0)", chain, Edges.NONE, x -> x.node(6, 0));
        }
    }

    /** 17: "its PART is the first by ORDER on which it hangs". */
    private static void nodeSkipsWhatItDoesNotHangOn() {
        FaultGraph x = Plants.ofParts(6);
        x.gate(0, 0);
        x.join(0, true, 5);
        x.join(0, true, 2);
        E.due("17 two nodes", x.told(4), 2);
        E.due("17 part 2 stands ahead of part 5", x.node(0, 0), 2);
        E.due("17 then part 5", x.node(1, 0), 5);
        x.move(5, 0);
        E.due("17 part 5 stands first", x.node(0, 0), 5);
        E.due("17 then part 2", x.node(1, 0), 2);
        x.gate(1, 0);
        x.join(1, true, 3);
        E.due("17 one node", x.told(4), 1);
        E.due("17 of part 3", x.node(0, 0), 3);
        E.due("17 WORKS: NEVER", x.node(0, 1), Edges.NEVER);
        E.due("17 FAILS: EVER", x.node(0, 2), Edges.EVER);
    }

    /** 17: "(FUNCTIONS that say the same are one.)", "numbered .. as they are met first". */
    private static void nodeIsMetOnce() {
        FaultGraph x = Plants.oneGate(3, 2, 2);
        int[][] nodes = {{0, 1, 3}, {1, Edges.NEVER, 2}, {2, Edges.NEVER, Edges.EVER}, {1, 2, Edges.EVER}};
        E.due("17 four nodes", x.told(4), nodes.length);
        for (int n = 0; n < nodes.length; n++) {
            for (int what = 0; what < 3; what++) {
                E.due("17 node(" + n + ", " + what + ")", x.node(n, what), nodes[n][what]);
            }
        }
        E.due("17 no fifth", x.node(4, 0), Edges.NONE);
        FaultGraph y = Plants.someOfSix(3);
        E.due("17 twelve nodes of 3 of 6", y.told(4), 12);
        E.due("17 the last of them", y.node(11, 2), Edges.EVER);
        E.due("17 no thirteenth", y.node(12, 0), Edges.NONE);
    }

    /** 17: "STATE: no GATES", which is named ahead of NONE. */
    private static void nodeState() {
        for (Edges.Setup setup : new Edges.Setup[] {Plants.NEW, Plants.NO_GATES}) {
            for (int node : new int[] {Edges.LEAST, -1, 0, 1, Edges.MOST}) {
                for (int what : new int[] {Edges.LEAST, -1, 0, 2, 3, Edges.MOST}) {
                    E.still("17 STATE: node(" + node + ", " + what + ")", setup, Edges.STATE, x -> x.node(node, what));
                }
            }
        }
    }

    /** 17: "NONE", no such NODE, no such what. */
    private static void nodeNone() {
        for (Edges.Setup setup : new Edges.Setup[] {Plants.SMALL, Plants.FULL, TWENTY_CUTS}) {
            int nodes = setup.make().told(4);
            for (int node : Edges.outside(0, nodes - 1)) {
                for (int what = 0; what < 3; what++) {
                    int of = what;
                    E.still("17 NONE: node(" + node + ", " + what + ")", setup, Edges.NONE, x -> x.node(node, of));
                }
            }
            for (int what : Edges.outside(0, 2)) {
                E.still("17 NONE: node(0, " + what + ")", setup, Edges.NONE, x -> x.node(0, what));
                E.still("17 NONE: the last node, " + what, setup, Edges.NONE, x -> x.node(nodes - 1, what));
            }
        }
    }

    /** 17: "A FUNCTION that says always the same is NEVER or EVER", and no NODE. */
    private static void nodeOfNeverAndEver() {
        for (Edges.Setup setup : new Edges.Setup[] {EVER_THREE, NEVER_THREE, EVER_NO_PARTS, NEVER_NO_PARTS}) {
            E.still("17 no nodes", setup, 0, x -> x.told(4));
            for (int what = 0; what < 3; what++) {
                int of = what;
                E.still("17 NONE: node(0, " + what + ")", setup, Edges.NONE, x -> x.node(0, of));
            }
        }
    }

    /** 18: "NONE: what", which is named ahead of STATE. */
    private static void toldNone() {
        for (Edges.Setup setup : Plants.ALL) {
            for (int what : Edges.outside(0, 8)) {
                E.still("18 NONE: told(" + what + ")", setup, Edges.NONE, x -> x.told(what));
            }
        }
    }

    /** 18: "STATE: no GATES", for what is told "with GATES"; the rest is told all the same. */
    private static void toldState() {
        for (int what = 4; what <= 8; what++) {
            int of = what;
            E.still("18 STATE: told(" + what + ")", Plants.NEW, Edges.STATE, x -> x.told(of));
            E.still("18 STATE: told(" + what + ")", Plants.NO_GATES, Edges.STATE, x -> x.told(of));
        }
        int[][] due = {{0, 0, 0, -5}, {3, 0, 1, -5}, {3, 2, 2, 1}, {6, 8, 3, 7}};
        for (int s = 0; s < due.length; s++) {
            for (int what = 0; what < 4; what++) {
                int of = what;
                E.still("18 told(" + what + ")", Plants.ALL[s], due[s][what], x -> x.told(of));
            }
        }
    }

    /** 18: "7 MOST (-5: no PARTS)". */
    private static void toldOfNoParts() {
        E.still("18 MOST of no parts", EVER_NO_PARTS, Edges.NOT_ANY, x -> x.told(7));
        E.still("18 MOST of no parts", NEVER_NO_PARTS, Edges.NOT_ANY, x -> x.told(7));
        Edges.Setup one = () -> Plants.oneGate(1, 0, 0);
        E.still("18 MOST of one part", one, 0, x -> x.told(7));
    }

    /** 18: "8 whether THE GRAPH is EVER (1), NEVER (-1), or neither (0)". */
    private static void toldSameness() {
        E.still("18 EVER", EVER_THREE, 1, x -> x.told(8));
        E.still("18 EVER, no parts", EVER_NO_PARTS, 1, x -> x.told(8));
        E.still("18 NEVER", NEVER_THREE, -1, x -> x.told(8));
        E.still("18 NEVER, no parts", NEVER_NO_PARTS, -1, x -> x.told(8));
        for (int k = 0; k <= 5; k++) {
            int sameness = k == 0 ? 1 : k <= 4 ? 0 : -1;
            E.due("18 SOME " + k + " of four", Plants.oneGate(4, 2, k).told(8), sameness);
            E.due("18 of six parts, two of them no input", Plants.oneGate(6, 2, k).told(8), sameness);
        }
    }

    /** 18: "MOST: .. of several the least". */
    private static void toldMostOfSeveral() {
        for (int kind = 0; kind <= 1; kind++) {
            FaultGraph x = Plants.allOfSix(kind);
            E.due("18 all alike", x.told(7), 0);
            for (int p = 5; p >= 0; p--) {
                x.move(p, 5 - p);
            }
            E.due("18 the place does not matter", x.told(7), 0);
            x.odds(0, 5, kind == 0 ? 49 : 51);
            E.due("18 the last part alone", x.told(7), 5);
            x.odds(0, 4, kind == 0 ? 49 : 51);
            E.due("18 of two the least", x.told(7), 4);
        }
        FaultGraph sure = Plants.oneGate(3, 0, 0);
        sure.odds(0, 0, 0);
        E.due("18 only part 0 has a weight", sure.told(7), 0);
        sure.odds(0, 1, 0);
        E.due("18 none has one: the least", sure.told(7), 0);
        sure.odds(0, 0, 100);
        E.due("18 part 1 has", sure.told(7), 1);
    }

    /** 19: of NEVER there are no CUTS, of EVER there is the empty one. */
    private static void cutsOfNeverAndEver() {
        for (Edges.Setup setup : new Edges.Setup[] {NEVER_THREE, NEVER_NO_PARTS}) {
            E.still("19 NEVER: none", setup, 0, x -> x.told(5));
            E.still("19 NEVER: NONE", setup, Edges.NONE, x -> x.cut(0));
        }
        for (Edges.Setup setup : new Edges.Setup[] {EVER_THREE, EVER_NO_PARTS}) {
            E.still("19 EVER: one", setup, 1, x -> x.told(5));
            E.still("19 EVER: the empty set", setup, 0, x -> x.cut(0));
            E.still("19 EVER: no more", setup, Edges.NONE, x -> x.cut(1));
        }
    }

    private static int[] threesOfSix() {
        int[] sets = new int[20];
        int size = 0;
        for (int bits = 0; bits < 64; bits++) {
            if (Integer.bitCount(bits) == 3) {
                sets[size++] = bits;
            }
        }
        return sets;
    }

    /** 19, "by how many PARTS, fewest first, of several by BITS, least first": as many as there can be. */
    private static void cutsTwentyInOrder() {
        int[] threes = threesOfSix();
        E.still("19 twenty", TWENTY_CUTS, 20, x -> x.told(5));
        FaultGraph x = TWENTY_CUTS.make();
        for (int k = 0; k < 20; k++) {
            E.due("19 cut " + k, x.cut(k), threes[k]);
        }
        E.due("19 cut 20", x.cut(20), Edges.NONE);
        // part 5 alone: the least number of parts comes first, though its bits are greater
        x.join(4, true, 5);
        E.due("19 part 5 comes first", x.cut(0), 32);
        E.due("19 ten others without it", x.told(5), 11);
        E.due("19 then the least bits", x.cut(1), 7);
        E.due("19 the last", x.cut(10), 28);
        E.due("19 no more", x.cut(11), Edges.NONE);
    }

    /** 19: "STATE: no GATES", which is named ahead of NONE. */
    private static void cutState() {
        for (int k : new int[] {Edges.LEAST, -1, 0, 1, Edges.MOST}) {
            E.still("19 STATE: cut(" + k + ")", Plants.NEW, Edges.STATE, x -> x.cut(k));
            E.still("19 STATE: cut(" + k + ")", Plants.NO_GATES, Edges.STATE, x -> x.cut(k));
        }
    }

    /** 19: "NONE". */
    private static void cutNone() {
        E.still("19 the last of two", Plants.SMALL, 3, x -> x.cut(1));
        E.still("19 the last of twenty", TWENTY_CUTS, 56, x -> x.cut(19));
        for (int k : Edges.outside(0, 1)) {
            E.still("19 NONE: cut(" + k + ")", Plants.SMALL, Edges.NONE, x -> x.cut(k));
        }
        for (int k : Edges.outside(0, 19)) {
            E.still("19 NONE: cut(" + k + ")", TWENTY_CUTS, Edges.NONE, x -> x.cut(k));
        }
    }

    /** 20: of EVER there are no PATHS, of NEVER there is the empty one. */
    private static void pathsOfNeverAndEver() {
        for (Edges.Setup setup : new Edges.Setup[] {EVER_THREE, EVER_NO_PARTS}) {
            E.still("20 EVER: none", setup, 0, x -> x.told(6));
            E.still("20 EVER: NONE", setup, Edges.NONE, x -> x.path(0));
        }
        for (Edges.Setup setup : new Edges.Setup[] {NEVER_THREE, NEVER_NO_PARTS}) {
            E.still("20 NEVER: one", setup, 1, x -> x.told(6));
            E.still("20 NEVER: the empty set", setup, 0, x -> x.path(0));
            E.still("20 NEVER: no more", setup, Edges.NONE, x -> x.path(1));
        }
    }

    /** 20: as many as there can be, in their order. */
    private static void pathsTwentyInOrder() {
        int[] threes = threesOfSix();
        E.still("20 twenty", TWENTY_PATHS, 20, x -> x.told(6));
        E.still("20 fifteen cuts then", TWENTY_PATHS, 15, x -> x.told(5));
        E.still("20 fifteen of twenty cuts", TWENTY_CUTS, 15, x -> x.told(6));
        FaultGraph x = TWENTY_PATHS.make();
        for (int k = 0; k < 20; k++) {
            E.due("20 path " + k, x.path(k), threes[k]);
        }
        E.due("20 path 20", x.path(20), Edges.NONE);
        // without part 5 the top stays up: the fewest parts come first, though its bits are greater
        x.gate(0, 0);
        x.join(5, false, 4);
        x.join(5, true, 5);
        E.due("20 part 5 comes first", x.path(0), 32);
        E.due("20 ten others without it", x.told(6), 11);
        E.due("20 then the least bits", x.path(1), 7);
        E.due("20 the last", x.path(10), 28);
        E.due("20 no more", x.path(11), Edges.NONE);
    }

    /** 20: "STATE: no GATES", which is named ahead of NONE. */
    private static void pathState() {
        for (int k : new int[] {Edges.LEAST, -1, 0, 1, Edges.MOST}) {
            E.still("20 STATE: path(" + k + ")", Plants.NEW, Edges.STATE, x -> x.path(k));
            E.still("20 STATE: path(" + k + ")", Plants.NO_GATES, Edges.STATE, x -> x.path(k));
        }
    }

    /** 20: "NONE". */
    private static void pathNone() {
        E.still("20 the last of two", Plants.SMALL, 6, x -> x.path(1));
        E.still("20 the last of twenty", TWENTY_PATHS, 56, x -> x.path(19));
        for (int k : Edges.outside(0, 1)) {
            E.still("20 NONE: path(" + k + ")", Plants.SMALL, Edges.NONE, x -> x.path(k));
        }
        for (int k : Edges.outside(0, 19)) {
            E.still("20 NONE: path(" + k + ")", TWENTY_PATHS, Edges.NONE, x -> x.path(k));
        }
    }
}
