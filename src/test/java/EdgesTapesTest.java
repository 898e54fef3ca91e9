/** Promises 31 to 38 at their edges: a test for each sentence that names one. */
public final class EdgesTapesTest {
    private static final Edges E = new Edges("EdgesTapesTest");
    private static final long NO = Edges.NO;
    private static final int[] SOME_INTS = {Edges.LEAST, -2, -1, 0, 1, 60, Edges.MOST};

    public static void main(String[] args) {
        judgeNone();
        judgeState();
        judgeCast();
        judgeFirstOtherwise();
        judgeRowEnds();
        judgePlace();
        judgeHoldsNothing();
        judgeWithoutCuts();
        judgeEmptySet();
        judgeBytesBelowZero();
        imageTellsGates();
        imageReplacesTheOther();
        undoState();
        undoOfEachChange();
        undoOfEmptyAndFull();
        undoLeavesTextAndTapes();
        undoTwice();
        countTells();
        countBad();
        tapeTakesSizes();
        tapeHoldsNothingAgain();
        tapeIsAllZero();
        tapeNone();
        tapeBadSort();
        tapeBadSize();
        tapeSizeBelowZero();
        itemPlaces();
        itemLowestBits();
        itemBooleans();
        itemNone();
        itemNothing();
        itemPlaceRefused();
        itemRefusedWhateverV();
        peekTells();
        peekNo();
        shiftAll();
        shiftOverItself();
        shiftNoItems();
        shiftNone();
        shiftNothing();
        shiftCast();
        shiftPlace();
        E.finish();
    }

    /** 31: "NONE: tape", which is named ahead of STATE. */
    private static void judgeNone() {
        for (Edges.Setup setup : Plants.ALL) {
            for (int tape : Edges.outside(0, 5)) {
                E.still("31 NONE: judge(" + tape + ", 0)", setup, Edges.NONE, x -> x.judge(tape, 0));
                E.still("31 NONE: judge(" + tape + ", -1)", setup, Edges.NONE, x -> x.judge(tape, -1));
            }
        }
    }

    /** 31: "STATE: no GATES", which is named ahead of CAST. */
    private static void judgeState() {
        for (int tape = 0; tape < 6; tape++) {
            int t = tape;
            for (int i : SOME_INTS) {
                E.still("31 STATE: judge(" + t + ", " + i + ")", Plants.NEW, Edges.STATE, x -> x.judge(t, i));
                E.still("31 STATE: judge(" + t + ", " + i + ")", Plants.NO_GATES, Edges.STATE, x -> x.judge(t, i));
            }
        }
    }

    /** 31: "CAST: it is no row of bytes", at whatever place, also if the row is empty. */
    private static void judgeCast() {
        for (int sort = 1; sort <= 4; sort++) {
            int of = sort;
            Edges.Setup empty = () -> {
                FaultGraph x = Plants.SMALL.make();
                x.tape(5, of, 0);
                return x;
            };
            for (int i : SOME_INTS) {
                E.still("31 CAST: judge(" + sort + ", " + i + ")", Plants.SMALL, Edges.CAST, x -> x.judge(of, i));
                E.still("31 CAST: an empty row, judge(5, " + i + ")", empty, Edges.CAST, x -> x.judge(5, i));
            }
        }
    }

    /** The twenty cuts on tape 5 from a place on, as far as the row goes; one of them is otherwise. */
    private static FaultGraph told(int from, int length, int wrong) {
        FaultGraph x = Plants.someOfSix(3);
        x.tape(5, 0, length);
        for (int k = 0; k < 20 && from + k < length; k++) {
            x.item(5, from + k, k == wrong ? 63 : x.cut(k));
        }
        return x;
    }

    /** 31: "the first that is otherwise; -5: none", for each of as many CUTS as there can be. */
    private static void judgeFirstOtherwise() {
        for (int wrong = 0; wrong < 20; wrong++) {
            int n = wrong;
            E.still("31 cut " + n + " is otherwise", () -> told(0, 20, n), n, x -> x.judge(5, 0));
            E.due("31 cut " + n + " is otherwise, up to the greatest place", told(40, 60, n).judge(5, 40), n);
        }
        E.still("31 none is otherwise", () -> told(0, 20, 20), Edges.NOT_ANY, x -> x.judge(5, 0));
        E.still("31 none, up to the greatest place", () -> told(40, 60, 20), Edges.NOT_ANY, x -> x.judge(5, 40));
        E.still("31 none, and more behind them", () -> told(0, 60, 20), Edges.NOT_ANY, x -> x.judge(5, 0));
        FaultGraph two = told(0, 20, 7);
        two.item(5, 12, 0);
        E.due("31 of two the first", two.judge(5, 0), 7);
    }

    /** 31: "100 and how many were looked at, if the row ends ahead of that". */
    private static void judgeRowEnds() {
        for (int length = 0; length < 20; length++) {
            int n = length;
            E.still("31 a row of " + n, () -> told(0, n, 20), 100 + n, x -> x.judge(5, 0));
        }
        for (int from = 41; from <= 60; from++) {
            E.due("31 from place " + from + " of sixty", told(from, 60, 20).judge(5, from), 100 + 60 - from);
        }
        E.due("31 the last one looked at is otherwise", told(0, 5, 4).judge(5, 0), 4);
    }

    /** 31: "or the place is below 0", or beyond the end, as far as numbers go. */
    private static void judgePlace() {
        for (int i : Edges.outside(0, 19)) {
            E.still("31 judge(5, " + i + ")", () -> told(0, 20, 20), 100, x -> x.judge(5, i));
        }
        E.due("31 the last place", told(0, 20, 20).judge(5, 19), 0);
        FaultGraph x = told(0, 20, 20);
        x.item(5, 19, 7);
        E.due("31 the first cut at the last place", x.judge(5, 19), 101);
    }

    /** 31: "or the TAPE holds nothing", at whatever place. */
    private static void judgeHoldsNothing() {
        for (int i : SOME_INTS) {
            E.still("31 holds nothing, judge(5, " + i + ")", Plants.SMALL, 100, x -> x.judge(5, i));
        }
    }

    /** 31: without CUTS none is otherwise, and none is looked at. */
    private static void judgeWithoutCuts() {
        Edges.Setup never = () -> {
            FaultGraph x = Plants.SMALL.make();
            x.turn(1, 2, 3);
            return x;
        };
        for (int i : SOME_INTS) {
            E.still("31 no cuts, bytes, judge(0, " + i + ")", never, Edges.NOT_ANY, x -> x.judge(0, i));
            E.still("31 no cuts, nothing, judge(5, " + i + ")", never, Edges.NOT_ANY, x -> x.judge(5, i));
            E.still("31 no cuts, CAST, judge(1, " + i + ")", never, Edges.CAST, x -> x.judge(1, i));
            E.still("31 no cuts, NONE, judge(6, " + i + ")", never, Edges.NONE, x -> x.judge(6, i));
        }
    }

    /** 31: of EVER the one CUT has BITS 0. */
    private static void judgeEmptySet() {
        FaultGraph x = Plants.oneGate(2, 2, 0);
        E.due("31 nothing there", x.judge(0, 0), 100);
        x.tape(0, 0, 0);
        E.due("31 an empty row", x.judge(0, 0), 100);
        x.tape(0, 0, 1);
        E.due("31 a 0", x.judge(0, 0), Edges.NOT_ANY);
        E.due("31 behind it", x.judge(0, 1), 100);
        x.item(0, 0, 1);
        E.due("31 a 1", x.judge(0, 0), 0);
    }

    /** 31: a byte is otherwise by any of its bits, and has no more than eight. */
    private static void judgeBytesBelowZero() {
        for (int v = -128; v <= 127; v++) {
            FaultGraph x = Plants.allOfSix(0);
            x.tape(0, 0, 1);
            x.item(0, 0, v);
            E.due("31 byte " + v, x.judge(0, 0), v == 63 ? Edges.NOT_ANY : 0);
        }
    }

    /** 32: "how many GATES there are", none to eight. */
    private static void imageTellsGates() {
        FaultGraph x = new FaultGraph();
        for (int gates = 0; gates <= 8; gates++) {
            E.due("32 image of " + gates, x.image(), gates);
            E.due("33 undo to it", x.undo(), gates);
            x.gate(0, 0);
        }
        E.due("32 image of eight still", x.image(), 8);
    }

    /** 32: "THE IMAGE is taken", and nothing else changes; the one before is gone. */
    private static void imageReplacesTheOther() {
        for (Edges.Setup setup : Plants.ALL) {
            FaultGraph x = setup.make();
            E.due("32 image()", x.image(), setup.make().told(1));
            E.same("32 nothing else changes", Look.at(x), Look.at(setup.make()));
            FaultGraph y = setup.make();
            y.image();
            E.due("33 undo()", y.undo(), setup.make().told(1));
            E.same("33 all is as the last image", Look.at(y), Look.at(setup.make()));
        }
    }

    /** 33: "STATE: there is none", of an empty plant and of one with something in it. */
    private static void undoState() {
        E.still("33 STATE: a new object", Plants.NEW, Edges.STATE, FaultGraph::undo);
        E.still("33 STATE: twenty cuts", () -> told(0, 20, 20), Edges.STATE, FaultGraph::undo);
        FaultGraph x = new FaultGraph();
        E.due("33 STATE", x.undo(), Edges.STATE);
        x.image();
        E.due("33 there is one then", x.undo(), 0);
        E.due("33 and stays", x.undo(), 0);
    }

    private static void undone(String name, Edges.Call change) {
        FaultGraph x = Plants.SMALL.make();
        x.image();
        E.due("33 " + name + " is done", change.on(x) >= 0 ? 1 : 0, 1);
        E.due("33 undo behind " + name, x.undo(), 2);
        E.same("33 " + name + " is undone", Look.atImage(x), Look.atImage(Plants.SMALL.make()));
    }

    /** 33, "PARTS, GATES, CAUSES, TOP, ORDER, SEEN, EVENTS, the BOOK": each change alone. */
    private static void undoOfEachChange() {
        undone("part", x -> x.part(1));
        undone("gate", x -> x.gate(2, 5));
        undone("turn", x -> x.turn(0, 2, 5));
        undone("turn of k alone", x -> x.turn(1, 1, 4));
        undone("join", x -> x.join(1, true, 0));
        undone("drop", x -> x.drop(1));
        undone("top", x -> x.top(0));
        undone("cause", x -> x.cause(9, 7));
        undone("odds of a part", x -> x.odds(0, 2, 99));
        undone("odds of a cause", x -> x.odds(1, 1, 99));
        undone("read", FaultGraph::read);
        undone("move", x -> x.move(0, 0));
        undone("sift", x -> x.sift(1));
        undone("see", x -> x.see(5, true));
        undone("see(-1)", x -> x.see(-1, true));
        undone("event", x -> x.event(2, 1));
        undone("event(-1)", x -> x.event(-1, 0));
        undone("book", x -> x.book(7));
        undone("book(-1)", x -> x.book(-1));
        undone("the other seen", x -> x.see(-1, true) + x.see(7, false) + x.see(6, true));
        undone("other events", x -> x.event(-1, 0) + x.event(1, 0) + x.event(2, 1));
        undone("another book", x -> x.book(-1) + x.book(5) + x.book(4));
        undone("another input", x -> x.drop(1) + x.join(1, true, 0));
    }

    /** 33: from full to empty, and from empty to full; TOP told by hand goes and comes with it. */
    private static void undoOfEmptyAndFull() {
        FaultGraph x = new FaultGraph();
        x.image();
        for (int p = 0; p < 6; p++) {
            x.part(1);
        }
        for (int g = 0; g < 8; g++) {
            x.gate(1, 1);
            x.join(g, true, 5);
        }
        x.top(7);
        x.cause(1, 63);
        x.see(63, true);
        x.event(3, 7);
        x.book(63);
        E.due("33 to nothing", x.undo(), 0);
        E.same("33 nothing", Look.at(x), Look.at(new FaultGraph()));
        E.due("33 a first part", x.part(4), 0);
        E.due("33 a first gate", x.gate(0, 0), 0);
        E.due("33 it is top, none by hand", x.told(3), 0);
        x.gate(0, 0);
        E.due("33 the next is", x.told(3), 1);
        FaultGraph y = Plants.FULL.make();
        y.image();
        y.top(0);
        y.see(-1, true);
        y.event(-1, 0);
        y.book(-1);
        E.due("33 to the full one", y.undo(), 8);
        E.same("33 full", Look.at(y), Look.at(Plants.FULL.make()));
    }

    /** 33: THE TEXT and the TAPES are not in THE IMAGE. */
    private static void undoLeavesTextAndTapes() {
        FaultGraph x = Plants.SMALL.make();
        x.image();
        x.feed(';');
        x.tape(5, 2, 1);
        x.item(5, 0, 77);
        x.item(0, 0, 88);
        x.tape(1, -1, 0);
        x.undo();
        E.due("33 the text stays", x.count(3), 7);
        E.due("33 a tape that came stays", x.peek(5, 0), 77);
        E.due("33 an item stays", x.peek(0, 0), 88);
        E.due("33 a tape that went stays away", x.peek(1, 0), NO);
        FaultGraph y = Plants.SMALL.make();
        y.image();
        y.read();
        y.undo();
        E.due("33 a text that was read doesn't come again", y.count(3), 0);
    }

    /** 33: "All is as THE IMAGE", each time anew. */
    private static void undoTwice() {
        FaultGraph x = Plants.SMALL.make();
        x.image();
        for (int round = 0; round < 3; round++) {
            x.part(round);
            x.gate(0, 0);
            x.drop(0);
            x.cause(round, 1);
            x.odds(0, 0, round);
            E.due("33 round " + round, x.undo(), 2);
        }
        E.same("33 three times", Look.atImage(x), Look.atImage(Plants.SMALL.make()));
    }

    /** 34: "0 SEEN, 1 EVENTS, 2 of the BOOK, 3 bytes of THE TEXT", of none, of some and of full rows. */
    private static void countTells() {
        int[][] due = {{0, 0, 0, 0}, {1, 1, 1, 2}, {2, 2, 2, 6}, {6, 8, 8, 100}};
        for (int s = 0; s < due.length; s++) {
            for (int what = 0; what < 4; what++) {
                int of = what;
                E.still("34 count(" + what + ")", Plants.ALL[s], due[s][what], x -> x.count(of));
            }
        }
    }

    /** 34: "BAD". */
    private static void countBad() {
        for (Edges.Setup setup : Plants.ALL) {
            for (int what : Edges.outside(0, 3)) {
                E.still("34 BAD: count(" + what + ")", setup, Edges.BAD, x -> x.count(what));
            }
        }
    }

    /** 35: "A TAPE becomes a row of n (0 .. 60) of a sort", of all TAPES, sorts and sizes. */
    private static void tapeTakesSizes() {
        for (int tape = 0; tape < 6; tape++) {
            for (int sort = 0; sort <= 4; sort++) {
                for (int n = 0; n <= 60; n++) {
                    FaultGraph x = new FaultGraph();
                    E.due("35 tape(" + tape + ", " + sort + ", " + n + ")", x.tape(tape, sort, n), 1);
                    E.due("35 its last place", x.peek(tape, n - 1), n == 0 ? NO : 0);
                    E.due("35 no place behind", x.peek(tape, n), NO);
                    E.due("35 it is there", x.item(tape, n, 1), Edges.PLACE);
                }
            }
        }
    }

    /** 35: "or holds nothing (sort -1: n does not matter): 1". */
    private static void tapeHoldsNothingAgain() {
        for (int n : new int[] {Edges.LEAST, -1, 0, 60, 61, Edges.MOST}) {
            for (int tape = 0; tape < 6; tape++) {
                FaultGraph x = Plants.FULL.make();
                E.due("35 tape(" + tape + ", -1, " + n + ")", x.tape(tape, -1, n), 1);
                E.due("35 holds nothing", x.item(tape, 0, 1), Edges.NOTHING);
                E.due("35 of nothing no item", x.peek(tape, 0), NO);
                E.due("35 the next holds what it held", x.shift((tape + 1) % 6, 0, (tape + 1) % 6, 0, 2), 2);
            }
            int most = n;
            E.still("35 nothing that held nothing", Plants.NEW, 1, x -> x.tape(0, -1, most));
        }
    }

    /** 35: "all 0", whatever was there; also behind the end of a shorter one. */
    private static void tapeIsAllZero() {
        for (int sort = 0; sort <= 4; sort++) {
            FaultGraph x = new FaultGraph();
            x.tape(0, sort, 60);
            for (int i = 0; i < 60; i++) {
                x.item(0, i, -1);
            }
            x.tape(0, sort, 1);
            E.due("35 a shorter one", x.peek(0, 0), 0);
            E.due("35 it ends there", x.peek(0, 1), NO);
            x.tape(0, sort, 60);
            for (int i = 0; i < 60; i++) {
                E.due("35 sort " + sort + ", place " + i, x.peek(0, i), 0);
            }
        }
    }

    /** 35: "NONE: tape", which is named ahead of BAD and SIZE, also for a sort of -1. */
    private static void tapeNone() {
        for (Edges.Setup setup : new Edges.Setup[] {Plants.NEW, Plants.FULL}) {
            for (int tape : Edges.outside(0, 5)) {
                E.still("35 NONE: tape(" + tape + ", 0, 1)", setup, Edges.NONE, x -> x.tape(tape, 0, 1));
                E.still("35 NONE: tape(" + tape + ", -1, 1)", setup, Edges.NONE, x -> x.tape(tape, -1, 1));
                E.still("35 NONE: tape(" + tape + ", 5, 1)", setup, Edges.NONE, x -> x.tape(tape, 5, 1));
                E.still("35 NONE: tape(" + tape + ", 0, 61)", setup, Edges.NONE, x -> x.tape(tape, 0, 61));
                E.still("35 NONE: tape(" + tape + ", 0, -1)", setup, Edges.NONE, x -> x.tape(tape, 0, -1));
            }
        }
    }

    /** 35: "BAD: sort", which is named ahead of SIZE. */
    private static void tapeBadSort() {
        for (Edges.Setup setup : new Edges.Setup[] {Plants.NEW, Plants.FULL}) {
            for (int sort : Edges.outsideBut(0, 4, -1)) {
                for (int n : new int[] {Edges.LEAST, -1, 0, 60, 61, Edges.MOST}) {
                    E.still("35 BAD: tape(5, " + sort + ", " + n + ")", setup, Edges.BAD, x -> x.tape(5, sort, n));
                }
            }
        }
    }

    /** 35: "BAD: .. n above 60". */
    private static void tapeBadSize() {
        for (Edges.Setup setup : new Edges.Setup[] {Plants.NEW, Plants.FULL}) {
            for (int sort = 0; sort <= 4; sort++) {
                int of = sort;
                for (int n : new int[] {61, 62, 256, 1 << 16, 1 << 30, Edges.MOST - 1, Edges.MOST}) {
                    E.still("35 BAD: tape(0, " + sort + ", " + n + ")", setup, Edges.BAD, x -> x.tape(0, of, n));
                }
            }
        }
    }

    /** 35: "SIZE", a size below 0. */
    private static void tapeSizeBelowZero() {
        for (Edges.Setup setup : new Edges.Setup[] {Plants.NEW, Plants.FULL}) {
            for (int sort = 0; sort <= 4; sort++) {
                int of = sort;
                for (int n : new int[] {-1, -2, -60, -256, Edges.LEAST + 1, Edges.LEAST}) {
                    E.still("35 SIZE: tape(0, " + sort + ", " + n + ")", setup, Edges.SIZE, x -> x.tape(0, of, n));
                }
            }
        }
    }

    /** 36: "Item i of a TAPE becomes v", the first and the last place, and no other item does. */
    private static void itemPlaces() {
        for (int n = 1; n <= 60; n += 59) {
            FaultGraph x = new FaultGraph();
            x.tape(5, 3, n);
            E.due("36 the last", x.item(5, n - 1, 8), 1);
            E.due("36 the first", x.item(5, 0, 9), 1);
            E.due("36 the first is", x.peek(5, 0), 9);
            E.due("36 the last is", x.peek(5, n - 1), n == 1 ? 9 : 8);
            for (int i = 1; i < n - 1; i++) {
                E.due("36 item " + i + " isn't", x.peek(5, i), 0);
            }
        }
    }

    /** 36: "its lowest bits, as many as an item has", around each end and at those of a long. */
    private static void itemLowestBits() {
        long[] ends = {0, 1L << 7, 1L << 8, 1L << 15, 1L << 16, 1L << 31, 1L << 32, Long.MIN_VALUE};
        FaultGraph x = new FaultGraph();
        for (int sort = 0; sort <= 3; sort++) {
            x.tape(sort, sort, 1);
        }
        for (long end : ends) {
            for (long off = -1; off <= 1; off++) {
                for (int sign = -1; sign <= 1; sign += 2) {
                    // around the least long this goes to the greatest
                    long v = sign * end + off;
                    long[] due = {(byte) v, (short) v, (int) v, v};
                    for (int sort = 0; sort <= 3; sort++) {
                        E.due("36 item of " + v, x.item(sort, 0, v), 1);
                        E.due("36 sort " + sort + " of " + v, x.peek(sort, 0), due[sort]);
                    }
                }
            }
        }
    }

    /** 36: "booleans: whether v is not 0". */
    private static void itemBooleans() {
        FaultGraph x = new FaultGraph();
        x.tape(0, 4, 1);
        for (int bit = 0; bit < 64; bit++) {
            E.due("36 item", x.item(0, 0, 1L << bit), 1);
            E.due("36 bit " + bit, x.peek(0, 0), 1);
            E.due("36 item of 0", x.item(0, 0, 0), 1);
            E.due("36 of 0", x.peek(0, 0), 0);
        }
        for (long v : new long[] {-1, 2, 256, 1L << 32, Long.MAX_VALUE, Long.MIN_VALUE}) {
            x.item(0, 0, v);
            E.due("36 of " + v, x.peek(0, 0), 1);
        }
    }

    /** 36: "NONE", which is named ahead of NOTHING and PLACE. */
    private static void itemNone() {
        for (Edges.Setup setup : new Edges.Setup[] {Plants.NEW, Plants.FULL}) {
            for (int tape : Edges.outside(0, 5)) {
                E.still("36 NONE: item(" + tape + ", 0, 1)", setup, Edges.NONE, x -> x.item(tape, 0, 1));
                E.still("36 NONE: item(" + tape + ", -1, 1)", setup, Edges.NONE, x -> x.item(tape, -1, 1));
            }
        }
    }

    /** 36: "NOTHING", which is named ahead of PLACE. */
    private static void itemNothing() {
        for (int tape = 0; tape < 6; tape++) {
            int t = tape;
            for (int i : SOME_INTS) {
                E.still("36 NOTHING: item(" + t + ", " + i + ", 1)", Plants.NEW, Edges.NOTHING, x -> x.item(t, i, 1));
            }
        }
        E.still("36 NOTHING: item(5, 0, 1)", Plants.SMALL, Edges.NOTHING, x -> x.item(5, 0, 1));
    }

    /** 36: "PLACE", no such place. */
    private static void itemPlaceRefused() {
        for (int tape = 0; tape < 5; tape++) {
            int t = tape;
            for (int i : Edges.outside(0, 1)) {
                E.still("36 PLACE: item(" + t + ", " + i + ", 1)", Plants.FULL, Edges.PLACE, x -> x.item(t, i, 1));
            }
        }
        for (int i : Edges.outside(0, 59)) {
            E.still("36 PLACE: item(5, " + i + ", 1)", Plants.FULL, Edges.PLACE, x -> x.item(5, i, 1));
        }
        Edges.Setup empty = () -> {
            FaultGraph x = Plants.SMALL.make();
            x.tape(5, 0, 0);
            return x;
        };
        for (int i : SOME_INTS) {
            E.still("36 PLACE: of an empty row " + i, empty, Edges.PLACE, x -> x.item(5, i, 1));
        }
    }

    /** 36: what is refused does not go by v. */
    private static void itemRefusedWhateverV() {
        for (long v : new long[] {Long.MIN_VALUE, -1, 0, Long.MAX_VALUE}) {
            E.still("36 NONE: item(6, 0, " + v + ")", Plants.SMALL, Edges.NONE, x -> x.item(6, 0, v));
            E.still("36 NOTHING: item(5, 0, " + v + ")", Plants.SMALL, Edges.NOTHING, x -> x.item(5, 0, v));
            for (int tape = 0; tape < 5; tape++) {
                int t = tape;
                E.still("36 PLACE: item(" + t + ", 2, " + v + ")", Plants.SMALL, Edges.PLACE, x -> x.item(t, 2, v));
            }
        }
    }

    /** 37: "Item i of a TAPE." */
    private static void peekTells() {
        long[] due = {-3, -3, -3, -3, 1};
        for (int tape = 0; tape < 5; tape++) {
            int t = tape;
            E.still("37 peek(" + t + ", 0)", Plants.FULL, t == 4 ? 1 : 4, x -> x.peek(t, 0));
            E.still("37 peek(" + t + ", 1)", Plants.FULL, due[t], x -> x.peek(t, 1));
        }
        E.still("37 the greatest place", Plants.FULL, 63, x -> x.peek(5, 59));
        E.still("37 the one ahead", Plants.FULL, 0, x -> x.peek(5, 58));
    }

    /** 37: "NO: no such TAPE, nothing there, no such place". */
    private static void peekNo() {
        for (Edges.Setup setup : new Edges.Setup[] {Plants.NEW, Plants.FULL}) {
            for (int tape : Edges.outside(0, 5)) {
                E.still("37 NO: peek(" + tape + ", 0)", setup, NO, x -> x.peek(tape, 0));
            }
        }
        for (int i : SOME_INTS) {
            E.still("37 NO: nothing there, peek(5, " + i + ")", Plants.SMALL, NO, x -> x.peek(5, i));
        }
        for (int tape = 0; tape < 5; tape++) {
            int t = tape;
            for (int i : Edges.outside(0, 1)) {
                E.still("37 NO: peek(" + t + ", " + i + ")", Plants.FULL, NO, x -> x.peek(t, i));
            }
        }
        for (int i : Edges.outside(0, 59)) {
            E.still("37 NO: peek(5, " + i + ")", Plants.FULL, NO, x -> x.peek(5, i));
        }
    }

    /** Tapes 0 and 1 of one sort, of items 1, 2, .. and of nothing but 0. */
    private static FaultGraph twoRows(int sort, int length, int otherLength) {
        FaultGraph x = new FaultGraph();
        x.tape(0, sort, length);
        x.tape(1, sort, otherLength);
        for (int i = 0; i < length; i++) {
            x.item(0, i, i + 1);
        }
        return x;
    }

    /** 38: "n items .. from i on come to another one .. from j on: n", for all that just fit. */
    private static void shiftAll() {
        for (int sort = 0; sort <= 4; sort++) {
            FaultGraph x = twoRows(sort, 60, 60);
            E.due("38 all sixty", x.shift(0, 0, 1, 0, 60), 60);
            for (int i = 0; i < 60; i++) {
                E.due("38 sort " + sort + ", item " + i, x.peek(1, i), sort == 4 ? 1 : i + 1);
            }
        }
        for (int n = 0; n <= 4; n++) {
            for (int i = 0; i <= 4 - n; i++) {
                for (int j = 0; j <= 4 - n; j++) {
                    FaultGraph x = twoRows(2, 4, 4);
                    E.due("38 shift(0, " + i + ", 1, " + j + ", " + n + ")", x.shift(0, i, 1, j, n), n);
                    for (int k = 0; k < 4; k++) {
                        E.due("38 the other's " + k, x.peek(1, k), k >= j && k < j + n ? i + k - j + 1 : 0);
                        E.due("38 its own " + k + " stays", x.peek(0, k), k + 1);
                    }
                }
            }
        }
        FaultGraph y = new FaultGraph();
        y.tape(5, 3, 1);
        y.tape(4, 3, 1);
        y.item(5, 0, Long.MIN_VALUE);
        E.due("38 the last tape's", y.shift(5, 0, 4, 0, 1), 1);
        E.due("38 the least long", y.peek(4, 0), Long.MIN_VALUE);
    }

    /** 38: "(or the same) .. as they all were before". */
    private static void shiftOverItself() {
        for (int i = 0; i <= 5; i++) {
            for (int j = 0; j <= 5; j++) {
                int n = 5 - Math.max(i, j);
                FaultGraph x = twoRows(1, 5, 0);
                E.due("38 shift(0, " + i + ", 0, " + j + ", " + n + ")", x.shift(0, i, 0, j, n), n);
                for (int k = 0; k < 5; k++) {
                    E.due("38 over itself, item " + k, x.peek(0, k), k >= j && k < j + n ? i + k - j + 1 : k + 1);
                }
            }
        }
    }

    /** 38: n of 0 is fine up to either's end, and not beyond. */
    private static void shiftNoItems() {
        Edges.Setup rows = () -> twoRows(0, 3, 2);
        E.still("38 none, at both ends", rows, 0, x -> x.shift(0, 3, 1, 2, 0));
        E.still("38 none, at its own end", rows, 0, x -> x.shift(0, 3, 0, 3, 0));
        E.still("38 none, beyond the first's end", rows, Edges.PLACE, x -> x.shift(0, 4, 1, 2, 0));
        E.still("38 none, beyond the other's end", rows, Edges.PLACE, x -> x.shift(0, 3, 1, 3, 0));
        Edges.Setup empty = () -> twoRows(4, 0, 0);
        E.still("38 none of none", empty, 0, x -> x.shift(0, 0, 1, 0, 0));
        E.still("38 one of none", empty, Edges.PLACE, x -> x.shift(0, 0, 1, 0, 1));
    }

    /** 38: "NONE: tapes", which is named ahead of NOTHING, CAST and PLACE. */
    private static void shiftNone() {
        for (Edges.Setup setup : new Edges.Setup[] {Plants.NEW, Plants.FULL}) {
            for (int tape : Edges.outside(0, 5)) {
                E.still("38 NONE: shift(" + tape + ", 0, 0, 0, 1)", setup, Edges.NONE, x -> x.shift(tape, 0, 0, 0, 1));
                E.still("38 NONE: shift(0, 0, " + tape + ", 0, 1)", setup, Edges.NONE, x -> x.shift(0, 0, tape, 0, 1));
                E.still("38 NONE: shift of it to it, " + tape, setup, Edges.NONE, x -> x.shift(tape, 0, tape, 0, 0));
                E.still("38 NONE, no place, " + tape, setup, Edges.NONE, x -> x.shift(0, -1, tape, -1, -1));
            }
        }
    }

    /** 38: "NOTHING", of either, which is named ahead of CAST and PLACE. */
    private static void shiftNothing() {
        for (int i : SOME_INTS) {
            E.still("38 NOTHING: from nothing", Plants.SMALL, Edges.NOTHING, x -> x.shift(5, i, 0, 0, 1));
            E.still("38 NOTHING: to nothing", Plants.SMALL, Edges.NOTHING, x -> x.shift(0, 0, 5, i, 1));
            E.still("38 NOTHING: n " + i, Plants.SMALL, Edges.NOTHING, x -> x.shift(3, 0, 5, 0, i));
            E.still("38 NOTHING: both", Plants.NEW, Edges.NOTHING, x -> x.shift(0, i, 1, i, i));
            E.still("38 NOTHING: itself", Plants.NEW, Edges.NOTHING, x -> x.shift(2, i, 2, i, i));
        }
    }

    /** 38: "CAST: of unlike sorts", all pairs, which is named ahead of PLACE; also if none come. */
    private static void shiftCast() {
        for (int tape = 0; tape < 5; tape++) {
            for (int other = 0; other < 5; other++) {
                int from = tape;
                int to = other;
                if (from == to) {
                    continue;
                }
                String name = "38 CAST: " + from + " to " + to;
                E.still(name, Plants.SMALL, Edges.CAST, x -> x.shift(from, 0, to, 0, 1));
                E.still(name + ", none", Plants.SMALL, Edges.CAST, x -> x.shift(from, 0, to, 0, 0));
                E.still(name + ", no place", Plants.SMALL, Edges.CAST, x -> x.shift(from, -1, to, 3, Edges.MOST));
            }
        }
    }

    /** 38: "PLACE: n, i or j is below 0, or beyond either's end", as far as numbers go. */
    private static void shiftPlace() {
        Edges.Setup rows = () -> twoRows(2, 5, 3);
        for (int n : Edges.outside(0, 3)) {
            E.still("38 PLACE: n " + n, rows, Edges.PLACE, x -> x.shift(0, 0, 1, 0, n));
        }
        for (int n : Edges.outside(0, 3)) {
            E.still("38 PLACE: n " + n + ", the other way", rows, Edges.PLACE, x -> x.shift(1, 0, 0, 0, n));
        }
        for (int i : Edges.outside(0, 3)) {
            E.still("38 PLACE: i " + i, rows, Edges.PLACE, x -> x.shift(0, i, 1, 0, 2));
        }
        for (int j : Edges.outside(0, 1)) {
            E.still("38 PLACE: j " + j, rows, Edges.PLACE, x -> x.shift(0, 0, 1, j, 2));
        }
        for (int n : new int[] {Edges.LEAST, -1, Edges.MOST}) {
            E.still("38 PLACE: all of " + n, rows, Edges.PLACE, x -> x.shift(0, n, 1, n, n));
            E.still("38 PLACE: itself, all of " + n, rows, Edges.PLACE, x -> x.shift(0, n, 0, n, n));
        }
        // two that come to a number below 0, if they are taken together
        E.still("38 PLACE: i 1, n most", rows, Edges.PLACE, x -> x.shift(0, 1, 1, 0, Edges.MOST));
        E.still("38 PLACE: j most, n 1", rows, Edges.PLACE, x -> x.shift(0, 0, 1, Edges.MOST, 1));
        E.still("38 PLACE: i least, n most", rows, Edges.PLACE, x -> x.shift(0, Edges.LEAST, 1, 0, Edges.MOST));
        E.due("38 the last that fits", rows.make().shift(0, 3, 1, 1, 2), 2);
    }
}
