/** Promises 1 to 10 at their edges: a test for each sentence that names one. */
public final class EdgesPartsTest {
    private static final Edges E = new Edges("EdgesPartsTest");
    private static final int[] SOME_INTS = {Edges.LEAST, -1, 0, 1, 7, 100, Edges.MOST};

    public static void main(String[] args) {
        newHasNothing();
        newKnowsNoOther();
        partsComeToSix();
        partTakesOdds();
        partBadOdds();
        partFull();
        gatesComeToEight();
        gateTakesKindsAndKs();
        gateBadKind();
        gateBadK();
        gateFull();
        gateHasNoInputs();
        turnTells();
        turnNone();
        turnBadKind();
        turnBadK();
        joinComesToFour();
        joinNoGate();
        joinNoPart();
        joinNoGateN();
        joinNotOfLessNumber();
        joinFull();
        dropGoesToNone();
        dropNone();
        dropState();
        topOfNoGates();
        topTakesGates();
        topNone();
        topIsLeft();
        topMinusOneFollows();
        causesComeToThree();
        causeTakesOdds();
        causeTakesBits();
        causeBadOdds();
        causeBadBits();
        causeFull();
        oddsBecome();
        oddsNoSide();
        oddsNoNumber();
        oddsBad();
        ofTells();
        ofNoSide();
        ofNoNumber();
        ofNoWhat();
        ofNoInput();
        E.finish();
    }

    /** 1: "No PARTS, no GATES." */
    private static void newHasNothing() {
        FaultGraph x = new FaultGraph();
        int[] told = {0, 0, 0, -5, -3, -3, -3, -3, -3};
        for (int what = 0; what < 9; what++) {
            E.due("1 told(" + what + ")", x.told(what), told[what]);
        }
        for (int side = 0; side < 3; side++) {
            E.due("1 of(" + side + ", 0, 0)", x.of(side, 0, 0), Edges.NONE);
        }
        for (int what = 0; what < 4; what++) {
            E.due("1 count(" + what + ")", x.count(what), 0);
        }
        for (int tape = 0; tape < 6; tape++) {
            E.due("1 tape " + tape, x.item(tape, 0, 1), Edges.NOTHING);
        }
        E.due("1 at(0)", x.at(0), Edges.NONE);
        E.due("1 no image", x.undo(), Edges.STATE);
        E.due("1 no text", x.read(), -10);
    }

    /** 1: what another object has is not in a new one. */
    private static void newKnowsNoOther() {
        FaultGraph old = Plants.FULL.make();
        FaultGraph x = new FaultGraph();
        old.part(1);
        E.due("1 no image but the other's", x.undo(), Edges.STATE);
        E.due("1 no parts but the other's", x.part(3), 0);
        E.due("1 its odds", x.of(0, 0, 0), 3);
        E.due("1 the other's odds", old.of(0, 0, 0), 10);
        E.same("1 beside another", Look.at(new FaultGraph()), Look.at(Plants.NEW.make()));
    }

    /** 2: "A PART: its number." */
    private static void partsComeToSix() {
        FaultGraph x = new FaultGraph();
        for (int p = 0; p < 6; p++) {
            E.due("2 part " + p, x.part(10 * p), p);
            E.due("2 parts by then", x.told(0), p + 1);
            E.due("2 its odds", x.of(0, p, 0), 10 * p);
            E.due("2 it stands last", x.of(0, p, 1), p);
        }
    }

    /** 2, "ODDS of 0 .. 100": all of these are taken. */
    private static void partTakesOdds() {
        for (int odds = 0; odds <= 100; odds++) {
            FaultGraph x = new FaultGraph();
            E.due("2 part(" + odds + ")", x.part(odds), 0);
            E.due("2 odds of it", x.of(0, 0, 0), odds);
        }
    }

    /** 2: "BAD: odds", which is named ahead of FULL. */
    private static void partBadOdds() {
        for (Edges.Setup setup : Plants.ALL) {
            for (int odds : Edges.outside(0, 100)) {
                E.still("2 BAD: part(" + odds + ")", setup, Edges.BAD, x -> x.part(odds));
            }
        }
    }

    /** 2: "FULL: 6". */
    private static void partFull() {
        for (int odds : new int[] {0, 1, 50, 99, 100}) {
            E.due("2 the sixth: part(" + odds + ")", Plants.ofParts(5).part(odds), 5);
            E.still("2 FULL: part(" + odds + ")", Plants.FULL, Edges.FULL, x -> x.part(odds));
        }
    }

    /** 3: "A GATE without INPUTS: its number." */
    private static void gatesComeToEight() {
        FaultGraph x = new FaultGraph();
        for (int g = 0; g < 8; g++) {
            E.due("3 gate " + g, x.gate(g % 3, g % 6), g);
            E.due("3 gates by then", x.told(1), g + 1);
            E.due("3 it is top", x.told(3), g);
        }
    }

    /** 3, "KIND: 0 ALL, 1 ANY, 2 SOME", "k: 0 .. 5; by ALL, ANY .. is told all the same". */
    private static void gateTakesKindsAndKs() {
        for (int kind = 0; kind <= 2; kind++) {
            for (int k = 0; k <= 5; k++) {
                FaultGraph x = new FaultGraph();
                E.due("3 gate(" + kind + ", " + k + ")", x.gate(kind, k), 0);
                E.due("3 its kind", x.of(1, 0, 0), kind);
                E.due("3 its k", x.of(1, 0, 1), k);
            }
        }
    }

    /** 3: "BAD: kind", which is named ahead of FULL. */
    private static void gateBadKind() {
        for (Edges.Setup setup : Plants.ALL) {
            for (int kind : Edges.outside(0, 2)) {
                E.still("3 BAD: gate(" + kind + ", 0)", setup, Edges.BAD, x -> x.gate(kind, 0));
                E.still("3 BAD: gate(" + kind + ", 5)", setup, Edges.BAD, x -> x.gate(kind, 5));
            }
        }
    }

    /** 3: "BAD: .. k", also where k does not matter. */
    private static void gateBadK() {
        for (Edges.Setup setup : Plants.ALL) {
            for (int k : Edges.outside(0, 5)) {
                for (int kind = 0; kind <= 2; kind++) {
                    int of = kind;
                    E.still("3 BAD: gate(" + of + ", " + k + ")", setup, Edges.BAD, x -> x.gate(of, k));
                }
                E.still("3 BAD: gate(" + k + ", " + k + ")", setup, Edges.BAD, x -> x.gate(k, k));
            }
        }
    }

    /** 3: "FULL: 8". */
    private static void gateFull() {
        for (int kind = 0; kind <= 2; kind++) {
            for (int k = 0; k <= 5; k += 5) {
                int of = kind;
                int need = k;
                FaultGraph y = new FaultGraph();
                for (int g = 0; g < 7; g++) {
                    y.gate(0, 0);
                }
                E.due("3 the eighth", y.gate(of, need), 7);
                E.still("3 FULL: gate(" + of + ", " + need + ")", Plants.FULL, Edges.FULL, x -> x.gate(of, need));
            }
        }
    }

    /** 3, "without INPUTS": also where one with INPUTS stood before it was undone. */
    private static void gateHasNoInputs() {
        FaultGraph x = Plants.ofParts(2);
        x.image();
        for (int round = 0; round < 2; round++) {
            E.due("3 a gate", x.gate(0, 0), 0);
            for (int what = 2; what <= 6; what++) {
                E.due("3 a new gate's " + what, x.of(1, 0, what), what == 2 ? 0 : Edges.NONE);
            }
            E.due("3 ALL of none fails", x.fails(0, 0), 1);
            x.join(0, true, 0);
            x.join(0, true, 1);
            E.due("3 gone", x.undo(), 0);
        }
    }

    /** 4: "10 times the KIND, and the k, that were": of all from all. */
    private static void turnTells() {
        FaultGraph x = new FaultGraph();
        x.gate(0, 0);
        int was = 0;
        for (int kind = 0; kind <= 2; kind++) {
            for (int k = 0; k <= 5; k++) {
                E.due("4 turn(0, " + kind + ", " + k + ")", x.turn(0, kind, k), was);
                E.due("4 its kind", x.of(1, 0, 0), kind);
                E.due("4 its k", x.of(1, 0, 1), k);
                was = 10 * kind + k;
            }
        }
        FaultGraph y = Plants.FULL.make();
        E.due("4 the last of eight", y.turn(7, 2, 4), 15);
        E.due("4 again", y.turn(7, 0, 0), 24);
        E.due("4 its inputs stay", y.of(1, 7, 2), 4);
        E.due("4 the first of eight", y.turn(0, 1, 1), 0);
    }

    /** 4: "NONE", which is named ahead of BAD. */
    private static void turnNone() {
        for (Edges.Setup setup : Plants.ALL) {
            for (int gate : Edges.outside(0, setup.make().told(1) - 1)) {
                E.still("4 NONE: turn(" + gate + ", 0, 0)", setup, Edges.NONE, x -> x.turn(gate, 0, 0));
                E.still("4 NONE: turn(" + gate + ", 2, 5)", setup, Edges.NONE, x -> x.turn(gate, 2, 5));
                E.still("4 NONE: turn(" + gate + ", 3, 0)", setup, Edges.NONE, x -> x.turn(gate, 3, 0));
                E.still("4 NONE: turn(" + gate + ", 0, 6)", setup, Edges.NONE, x -> x.turn(gate, 0, 6));
            }
        }
    }

    /** 4: "BAD: kind". */
    private static void turnBadKind() {
        for (int kind : Edges.outside(0, 2)) {
            E.still("4 BAD: turn(0, " + kind + ", 0)", Plants.SMALL, Edges.BAD, x -> x.turn(0, kind, 0));
            E.still("4 BAD: turn(7, " + kind + ", 5)", Plants.FULL, Edges.BAD, x -> x.turn(7, kind, 5));
        }
    }

    /** 4: "BAD: .. k". */
    private static void turnBadK() {
        for (int k : Edges.outside(0, 5)) {
            for (int kind = 0; kind <= 2; kind++) {
                int of = kind;
                E.still("4 BAD: turn(1, " + of + ", " + k + ")", Plants.SMALL, Edges.BAD, x -> x.turn(1, of, k));
                E.still("4 BAD: turn(7, " + of + ", " + k + ")", Plants.FULL, Edges.BAD, x -> x.turn(7, of, k));
            }
        }
    }

    /** 5: "how many it has", to "INPUTS, 4 at most"; "one may be it twice". */
    private static void joinComesToFour() {
        FaultGraph x = Plants.ofParts(6);
        for (int g = 0; g < 8; g++) {
            x.gate(2, 4);
        }
        for (int n = 1; n <= 4; n++) {
            E.due("5 the greatest part, " + n, x.join(0, true, 5), n);
            E.due("5 the least part, " + n, x.join(1, true, 0), n);
            E.due("5 the gate next below, " + n, x.join(7, false, 6), n);
            E.due("5 the least gate, " + n, x.join(6, false, 0), n);
        }
        for (int what = 3; what <= 6; what++) {
            E.due("5 part 5 is it four times", x.of(1, 0, what), 5);
            E.due("5 gate 6 is it four times", x.of(1, 7, what), 16);
        }
        E.due("5 four times one part are four", x.fails(0, 32), 1);
        E.due("5 four times one gate are four", x.fails(7, 32), 1);
        E.due("5 without it none", x.fails(7, 31), 0);
    }

    /** 5: "NONE: gate", which is named ahead of STATE and FULL. */
    private static void joinNoGate() {
        for (Edges.Setup setup : Plants.ALL) {
            for (int gate : Edges.outside(0, setup.make().told(1) - 1)) {
                E.still("5 NONE: join(" + gate + ", true, 0)", setup, Edges.NONE, x -> x.join(gate, true, 0));
                E.still("5 NONE: join(" + gate + ", false, 0)", setup, Edges.NONE, x -> x.join(gate, false, 0));
            }
        }
    }

    /** 5: "NONE: .. n", a PART; it is named ahead of FULL. */
    private static void joinNoPart() {
        for (int n : Edges.outside(0, 2)) {
            E.still("5 NONE: join(0, true, " + n + ")", Plants.SMALL, Edges.NONE, x -> x.join(0, true, n));
        }
        for (int n : Edges.outside(0, 5)) {
            E.still("5 NONE: join(7, true, " + n + ")", Plants.FULL, Edges.NONE, x -> x.join(7, true, n));
        }
        Edges.Setup noParts = () -> Plants.oneGate(0, 0, 0);
        E.still("5 NONE: no parts", noParts, Edges.NONE, x -> x.join(0, true, 0));
    }

    /** 5: "NONE: .. n", a GATE; it is named ahead of STATE and FULL. */
    private static void joinNoGateN() {
        for (int n : Edges.outside(0, 1)) {
            E.still("5 NONE: join(0, false, " + n + ")", Plants.SMALL, Edges.NONE, x -> x.join(0, false, n));
        }
        for (int n : Edges.outside(0, 7)) {
            E.still("5 NONE: join(7, false, " + n + ")", Plants.FULL, Edges.NONE, x -> x.join(7, false, n));
        }
    }

    /** 5: "STATE: GATE n isn't of less number", which is named ahead of FULL. */
    private static void joinNotOfLessNumber() {
        E.due("5 the last that is", Plants.SMALL.make().join(1, false, 0), 3);
        E.still("5 STATE: itself", Plants.SMALL, Edges.STATE, x -> x.join(1, false, 1));
        E.still("5 STATE: the least one itself", Plants.SMALL, Edges.STATE, x -> x.join(0, false, 0));
        E.still("5 STATE: the next", Plants.SMALL, Edges.STATE, x -> x.join(0, false, 1));
        for (int n = 3; n <= 7; n++) {
            int gate = n;
            E.still("5 STATE: join(3, false, " + n + ")", Plants.FULL, Edges.STATE, x -> x.join(3, false, gate));
        }
    }

    /** 5: "FULL: 4". */
    private static void joinFull() {
        for (int g = 0; g < 8; g++) {
            int gate = g;
            E.still("5 FULL: join(" + g + ", true, 5)", Plants.FULL, Edges.FULL, x -> x.join(gate, true, 5));
            if (gate > 0) {
                E.still("5 FULL: join(" + g + ", false, 0)", Plants.FULL, Edges.FULL, x -> x.join(gate, false, 0));
            }
        }
        FaultGraph x = Plants.FULL.make();
        x.drop(7);
        E.due("5 one went, one comes", x.join(7, true, 0), 4);
        E.due("5 it is the last", x.of(1, 7, 6), 0);
        E.due("5 no more", x.join(7, true, 0), Edges.FULL);
    }

    /** 6: "The last INPUT of a GATE goes: how many it has." */
    private static void dropGoesToNone() {
        for (int gate = 0; gate < 8; gate += 7) {
            FaultGraph x = Plants.FULL.make();
            for (int left = 3; left >= 0; left--) {
                E.due("6 drop(" + gate + ")", x.drop(gate), left);
                E.due("6 it has", x.of(1, gate, 2), left);
                E.due("6 the last is gone", x.of(1, gate, 3 + left), Edges.NONE);
            }
            E.due("6 none left", x.drop(gate), Edges.STATE);
            E.due("6 still none", x.of(1, gate, 2), 0);
            E.due("6 the others keep theirs", x.of(1, 3, 2), 4);
        }
    }

    /** 6: "NONE". */
    private static void dropNone() {
        for (Edges.Setup setup : Plants.ALL) {
            for (int gate : Edges.outside(0, setup.make().told(1) - 1)) {
                E.still("6 NONE: drop(" + gate + ")", setup, Edges.NONE, x -> x.drop(gate));
            }
        }
    }

    /** 6: "STATE: it has none". */
    private static void dropState() {
        Edges.Setup bare = () -> {
            FaultGraph x = Plants.SMALL.make();
            x.gate(2, 1);
            return x;
        };
        E.still("6 STATE: drop(2)", bare, Edges.STATE, x -> x.drop(2));
        E.due("6 beside it one has", bare.make().drop(1), 1);
    }

    /** 7: "what it was (-5: no GATES)". */
    private static void topOfNoGates() {
        E.still("7 top(-1)", Plants.NEW, Edges.NOT_ANY, x -> x.top(-1));
        E.still("7 top(-1)", Plants.NO_GATES, Edges.NOT_ANY, x -> x.top(-1));
        FaultGraph x = new FaultGraph();
        x.top(-1);
        x.gate(0, 0);
        E.due("7 the first is it then", x.told(3), 0);
    }

    /** 7: "TOP becomes a GATE": the least and the greatest. */
    private static void topTakesGates() {
        FaultGraph x = Plants.FULL.make();
        E.due("7 top(0)", x.top(0), 7);
        E.due("7 it is", x.told(3), 0);
        E.due("7 top(6)", x.top(6), 0);
        E.due("7 top(7)", x.top(7), 6);
        E.due("7 it again", x.top(7), 7);
        E.due("7 the last", x.top(-1), 7);
    }

    /** 7: "NONE". */
    private static void topNone() {
        for (Edges.Setup setup : Plants.ALL) {
            for (int gate : Edges.outsideBut(0, setup.make().told(1) - 1, -1)) {
                E.still("7 NONE: top(" + gate + ")", setup, Edges.NONE, x -> x.top(gate));
            }
        }
    }

    /** 7, "a GATE that comes leaves that so": also if the last one was told by hand. */
    private static void topIsLeft() {
        for (int by = 0; by < 3; by++) {
            FaultGraph x = new FaultGraph();
            for (int g = 0; g < 3; g++) {
                x.gate(0, 0);
            }
            x.top(by);
            for (int g = 3; g < 8; g++) {
                x.gate(0, 0);
                E.due("7 told by hand " + by + ", gate " + g + " comes", x.told(3), by);
            }
            x.gate(0, 0);
            E.due("7 one that doesn't come", x.told(3), by);
        }
    }

    /** 7: "(-1: the last one, also when more come)". */
    private static void topMinusOneFollows() {
        FaultGraph x = new FaultGraph();
        x.gate(0, 0);
        x.gate(0, 0);
        x.top(0);
        E.due("7 top(-1)", x.top(-1), 0);
        for (int g = 2; g < 8; g++) {
            E.due("7 ahead of gate " + g, x.told(3), g - 1);
            x.gate(0, 0);
            E.due("7 behind gate " + g, x.told(3), g);
        }
    }

    /** 8: "A CAUSE: its number." */
    private static void causesComeToThree() {
        FaultGraph x = Plants.ofParts(6);
        for (int c = 0; c < 3; c++) {
            E.due("8 cause " + c, x.cause(c * 50, 63 - c), c);
            E.due("8 causes by then", x.told(2), c + 1);
            E.due("8 its odds", x.of(2, c, 0), c * 50);
            E.due("8 its bits", x.of(2, c, 1), 63 - c);
        }
    }

    /** 8, "ODDS of 0 .. 100": all of these are taken. */
    private static void causeTakesOdds() {
        for (int odds = 0; odds <= 100; odds++) {
            FaultGraph x = Plants.ofParts(1);
            E.due("8 cause(" + odds + ", 1)", x.cause(odds, 1), 0);
            E.due("8 odds of it", x.of(2, 0, 0), odds);
        }
    }

    /** 8, "BITS that have others than PARTS there are": the last taken and the first refused. */
    private static void causeTakesBits() {
        for (int parts = 0; parts <= 6; parts++) {
            for (int bits = 0; bits < 1 << parts; bits++) {
                FaultGraph x = Plants.ofParts(parts);
                E.due("8 of " + parts + " parts: cause(5, " + bits + ")", x.cause(5, bits), 0);
                E.due("8 its bits", x.of(2, 0, 1), bits);
            }
        }
    }

    /** 8: "BAD: odds", which is named ahead of FULL. */
    private static void causeBadOdds() {
        for (Edges.Setup setup : Plants.ALL) {
            for (int odds : Edges.outside(0, 100)) {
                E.still("8 BAD: cause(" + odds + ", 0)", setup, Edges.BAD, x -> x.cause(odds, 0));
            }
        }
    }

    /** 8: "BAD: .. bits", which is named ahead of FULL. */
    private static void causeBadBits() {
        for (int parts = 0; parts <= 6; parts++) {
            int many = parts;
            Edges.Setup setup = () -> Plants.ofParts(many);
            for (int bits : Edges.outside(0, (1 << parts) - 1)) {
                E.still("8 BAD: of " + parts + " parts, bits " + bits, setup, Edges.BAD, x -> x.cause(5, bits));
            }
        }
        for (int bits : Edges.outside(0, 63)) {
            E.still("8 BAD: full, bits " + bits, Plants.FULL, Edges.BAD, x -> x.cause(5, bits));
        }
    }

    /** 8: "FULL: 3". */
    private static void causeFull() {
        FaultGraph y = Plants.SMALL.make();
        E.due("8 the third", y.cause(100, 7), 2);
        E.due("8 the fourth", y.cause(100, 7), Edges.FULL);
        for (int bits = 0; bits < 64; bits += 63) {
            int set = bits;
            E.still("8 FULL: cause(0, " + bits + ")", Plants.FULL, Edges.FULL, x -> x.cause(0, set));
            E.still("8 FULL: cause(100, " + bits + ")", Plants.FULL, Edges.FULL, x -> x.cause(100, set));
        }
    }

    /** 9: "ODDS .. become v: what they were." */
    private static void oddsBecome() {
        FaultGraph x = Plants.FULL.make();
        int[] last = {5, 2};
        int[] was = {7, 1};
        for (int side = 0; side < 2; side++) {
            for (int v : new int[] {0, 1, 99, 100, 100, 0}) {
                E.due("9 odds(" + side + ", " + last[side] + ", " + v + ")", x.odds(side, last[side], v), was[side]);
                E.due("9 they are", x.of(2 * side, last[side], 0), v);
                was[side] = v;
            }
            E.due("9 the first's", x.odds(side, 0, 3), side == 0 ? 10 : 15);
        }
        for (int v = 0; v <= 100; v++) {
            E.due("9 odds(0, 1, " + v + ")", Plants.SMALL.make().odds(0, 1, v), 20);
            E.due("9 odds(1, 1, " + v + ")", Plants.SMALL.make().odds(1, 1, v), 25);
        }
    }

    /** 9: "NONE: side", which is named ahead of BAD. */
    private static void oddsNoSide() {
        for (Edges.Setup setup : Plants.ALL) {
            for (int side : Edges.outside(0, 1)) {
                E.still("9 NONE: odds(" + side + ", 0, 0)", setup, Edges.NONE, x -> x.odds(side, 0, 0));
                E.still("9 NONE: odds(" + side + ", 0, 101)", setup, Edges.NONE, x -> x.odds(side, 0, 101));
            }
        }
    }

    /** 9: "NONE: .. k", which is named ahead of BAD. */
    private static void oddsNoNumber() {
        for (Edges.Setup setup : Plants.ALL) {
            for (int side = 0; side < 2; side++) {
                int of = side;
                for (int k : Edges.outside(0, setup.make().told(2 * side) - 1)) {
                    E.still("9 NONE: odds(" + side + ", " + k + ", 0)", setup, Edges.NONE, x -> x.odds(of, k, 0));
                    E.still("9 NONE: odds(" + side + ", " + k + ", -1)", setup, Edges.NONE, x -> x.odds(of, k, -1));
                }
            }
        }
    }

    /** 9: "BAD: v". */
    private static void oddsBad() {
        for (int v : Edges.outside(0, 100)) {
            for (int side = 0; side < 2; side++) {
                int of = side;
                E.still("9 BAD: odds(" + side + ", 0, " + v + ")", Plants.SMALL, Edges.BAD, x -> x.odds(of, 0, v));
                E.still("9 BAD: odds(" + side + ", 2, " + v + ")", Plants.FULL, Edges.BAD, x -> x.odds(of, 2, v));
            }
        }
    }

    /** 10: of the last PART, GATE and CAUSE there can be, all that is told. */
    private static void ofTells() {
        E.still("10 part 5, ODDS", Plants.FULL, 7, x -> x.of(0, 5, 0));
        E.still("10 part 5, place", Plants.FULL, 0, x -> x.of(0, 5, 1));
        E.still("10 part 3, the last place", Plants.FULL, 5, x -> x.of(0, 3, 1));
        int[] gate = {1, 5, 4, 5, 16, 5, 11};
        for (int what = 0; what < gate.length; what++) {
            int of = what;
            E.still("10 gate 7, " + what, Plants.FULL, gate[what], x -> x.of(1, 7, of));
        }
        E.still("10 cause 2, ODDS", Plants.FULL, 1, x -> x.of(2, 2, 0));
        E.still("10 cause 2, BITS", Plants.FULL, 33, x -> x.of(2, 2, 1));
        FaultGraph y = Plants.ofParts(1);
        y.gate(0, 0);
        y.gate(0, 0);
        y.join(1, true, 0);
        y.join(1, false, 0);
        E.due("10 PART 0 is told as 0", y.of(1, 1, 3), 0);
        E.due("10 GATE 0 is told as 10", y.of(1, 1, 4), 10);
    }

    /** 10: "NONE", no such side. */
    private static void ofNoSide() {
        for (Edges.Setup setup : Plants.ALL) {
            for (int side : Edges.outside(0, 2)) {
                E.still("10 NONE: of(" + side + ", 0, 0)", setup, Edges.NONE, x -> x.of(side, 0, 0));
            }
        }
    }

    /** 10: "NONE", no such number. */
    private static void ofNoNumber() {
        int[] count = {0, 1, 2};
        for (Edges.Setup setup : Plants.ALL) {
            for (int side : count) {
                for (int k : Edges.outside(0, setup.make().told(side) - 1)) {
                    E.still("10 NONE: of(" + side + ", " + k + ", 0)", setup, Edges.NONE, x -> x.of(side, k, 0));
                    E.still("10 NONE: of(" + side + ", " + k + ", 1)", setup, Edges.NONE, x -> x.of(side, k, 1));
                }
            }
        }
    }

    /** 10: "NONE", no such thing to be told of it. */
    private static void ofNoWhat() {
        int[] lastWhat = {1, 6, 1};
        for (int side = 0; side < 3; side++) {
            int of = side;
            for (int what : Edges.outside(0, lastWhat[side])) {
                E.still("10 NONE: of(" + side + ", 0, " + what + ")", Plants.SMALL, Edges.NONE, x -> x.of(of, 0, what));
                E.still("10 NONE: of(" + side + ", 2, " + what + ")", Plants.FULL, Edges.NONE, x -> x.of(of, 2, what));
            }
        }
    }

    /** 10, "3 .. 6 INPUTS": the first that a GATE doesn't have. */
    private static void ofNoInput() {
        for (int many = 0; many <= 4; many++) {
            FaultGraph x = Plants.oneGate(many, 1, 0);
            for (int n = 0; n < 4; n++) {
                E.due("10 of " + many + " inputs, input " + n, x.of(1, 0, 3 + n), n < many ? n : Edges.NONE);
            }
        }
        for (int n : SOME_INTS) {
            E.due("10 of(1, " + n + ", 3) of a new object", new FaultGraph().of(1, n, 3), Edges.NONE);
        }
    }
}
