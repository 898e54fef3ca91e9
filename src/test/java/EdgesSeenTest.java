/** Promises 24 to 30 at their edges: a test for each sentence that names one. */
public final class EdgesSeenTest {
    private static final Edges E = new Edges("EdgesSeenTest");
    private static final long NO = Edges.NO;
    private static final Edges.Setup EVER_THREE = () -> Plants.oneGate(3, 2, 0);
    private static final Edges.Setup NEVER_THREE = () -> Plants.oneGate(3, 2, 4);
    private static final Edges.Setup NO_PARTS = () -> Plants.oneGate(0, 0, 0);

    public static void main(String[] args) {
        seeComesToSix();
        seeTakesBits();
        seeMinusOne();
        seeBadBits();
        seeFull();
        seeSameRowTwice();
        fitsNoneSeen();
        fitsAllKs();
        fitsNone();
        fitsNoGate();
        fitsNoWhat();
        fitsOfLastGate();
        meanOfNeverAndEver();
        meanInLowestTerms();
        meanNoLine();
        meanNoGates();
        eventsComeToEight();
        eventMinusOne();
        eventNoWhat();
        eventNoPart();
        eventNoGate();
        eventFull();
        afterNone();
        afterState();
        afterNoEvents();
        afterNoParts();
        afterLastOfSeveral();
        afterEightEvents();
        afterOddsAreJustZero();
        afterOddsAreJustHundred();
        afterFailsIfNoPartDoes();
        afterWithCauses();
        afterKeepsK();
        booksComeToEight();
        bookTakesBits();
        bookMinusOne();
        bookBadBits();
        bookFull();
        lookedState();
        lookedEmpty();
        lookedOfEach();
        lookedNeverAndEver();
        E.finish();
    }

    /** 24: "What is SEEN comes: how many there are", 6 rows at most. */
    private static void seeComesToSix() {
        FaultGraph x = Plants.ofParts(6);
        for (int n = 1; n <= 6; n++) {
            E.due("24 row " + n, x.see(63, n % 2 == 0), n);
            E.due("24 there are", x.count(0), n);
        }
        E.due("24 the seventh", x.see(63, true), Edges.FULL);
        E.due("24 there are", x.count(0), 6);
    }

    /** 24, BITS: all that PARTS there are can have. */
    private static void seeTakesBits() {
        for (int parts = 0; parts <= 6; parts++) {
            for (int bits = 0; bits < 1 << parts; bits++) {
                E.due("24 of " + parts + " parts see(" + bits + ")", Plants.ofParts(parts).see(bits, true), 1);
                E.due("24 of " + parts + " parts see(" + bits + ")", Plants.ofParts(parts).see(bits, false), 1);
            }
        }
    }

    /** 24: "bits -1: none then, 0", of none, of some and of a full row. */
    private static void seeMinusOne() {
        for (Edges.Setup setup : Plants.ALL) {
            for (boolean isFailure : new boolean[] {true, false}) {
                FaultGraph x = setup.make();
                E.due("24 see(-1, " + isFailure + ")", x.see(-1, isFailure), 0);
                E.due("24 none then", x.count(0), 0);
                E.due("24 the first again", x.see(0, isFailure), 1);
            }
        }
        E.still("24 see(-1, true) of none", Plants.NEW, 0, x -> x.see(-1, true));
        FaultGraph y = Plants.oneGate(3, 1, 0);
        y.see(7, false);
        E.due("24 nothing fits but by it", y.fits(0, 0), 2);
        y.see(-1, true);
        E.due("24 all fits then", y.fits(0, 0), 6);
    }

    /** 24: "BAD: bits", which is named ahead of FULL. */
    private static void seeBadBits() {
        for (int parts = 0; parts <= 6; parts++) {
            int many = parts;
            Edges.Setup setup = () -> Plants.ofParts(many);
            for (int bits : Edges.outsideBut(0, (1 << parts) - 1, -1)) {
                E.still("24 BAD: of " + parts + " parts see(" + bits + ")", setup, Edges.BAD, x -> x.see(bits, true));
            }
        }
        for (int bits : Edges.outsideBut(0, 63, -1)) {
            E.still("24 BAD: see(" + bits + ", true)", Plants.FULL, Edges.BAD, x -> x.see(bits, true));
            E.still("24 BAD: see(" + bits + ", false)", Plants.FULL, Edges.BAD, x -> x.see(bits, false));
        }
    }

    /** 24: "FULL: 6". */
    private static void seeFull() {
        for (int bits = 0; bits < 64; bits += 21) {
            int set = bits;
            E.still("24 FULL: see(" + bits + ", true)", Plants.FULL, Edges.FULL, x -> x.see(set, true));
            E.still("24 FULL: see(" + bits + ", false)", Plants.FULL, Edges.FULL, x -> x.see(set, false));
        }
    }

    /** 24: the same BITS twice, alike and unlike. */
    private static void seeSameRowTwice() {
        FaultGraph x = Plants.oneGate(3, 2, 2);
        x.see(3, true);
        E.due("24 again", x.see(3, true), 2);
        E.due("25 alike", x.fits(0, 0), 3);
        E.due("24 otherwise", x.see(3, false), 3);
        E.due("25 unlike, none fits", x.fits(0, 0), 0);
        E.due("25 unlike, none fits", x.fits(0, 1), Edges.NOT_ANY);
    }

    private static void fits(String name, Edges.Setup setup, int gate, int many, int least) {
        E.still("25 " + name + ", how many", setup, many, x -> x.fits(gate, 0));
        E.still("25 " + name + ", the least", setup, least, x -> x.fits(gate, 1));
    }

    /** 25, "how many k 0 .. 5": nothing SEEN, so all six. */
    private static void fitsNoneSeen() {
        fits("nothing seen", () -> Plants.oneGate(3, 1, 4), 0, 6, 0);
        fits("nothing seen, no parts", NO_PARTS, 0, 6, 0);
    }

    /** 25: of four INPUTS just k FAIL, which is seen to be a failure or none. */
    private static void fitsAllKs() {
        for (int failing = 0; failing <= 4; failing++) {
            int bits = (1 << failing) - 1;
            for (int kind = 0; kind <= 2; kind++) {
                int of = kind;
                fits(failing + " fail, and it does", () -> seen(of, bits, true), 0, failing + 1, 0);
                fits(failing + " fail, and it doesn't", () -> seen(of, bits, false), 0, 5 - failing, failing + 1);
            }
        }
    }

    private static FaultGraph seen(int kind, int bits, boolean isFailure) {
        FaultGraph x = Plants.oneGate(4, kind, 3);
        x.see(bits, isFailure);
        return x;
    }

    /** 25: "-5", none; how many are 0 then. */
    private static void fitsNone() {
        Edges.Setup otherwise = () -> {
            FaultGraph x = seen(1, 3, true);
            x.see(7, false);
            return x;
        };
        fits("more fail, but it doesn't", otherwise, 0, 0, Edges.NOT_ANY);
        Edges.Setup byTheOthers = () -> {
            FaultGraph x = Plants.SMALL.make();
            x.top(1);
            x.see(4, false);
            return x;
        };
        fits("the top fails whatever gate 0 is", byTheOthers, 0, 0, Edges.NOT_ANY);
        FaultGraph last = Plants.oneGate(4, 0, 0);
        last.see(15, false);
        E.due("25 only 5", last.fits(0, 0), 1);
        E.due("25 only 5", last.fits(0, 1), 5);
        FaultGraph first = Plants.oneGate(4, 0, 0);
        first.see(0, true);
        E.due("25 only 0", first.fits(0, 0), 1);
        E.due("25 only 0", first.fits(0, 1), 0);
    }

    /** 25: "NONE: gate"; -1 is no GATE here. */
    private static void fitsNoGate() {
        for (Edges.Setup setup : Plants.ALL) {
            for (int gate : Edges.outside(0, setup.make().told(1) - 1)) {
                E.still("25 NONE: fits(" + gate + ", 0)", setup, Edges.NONE, x -> x.fits(gate, 0));
                E.still("25 NONE: fits(" + gate + ", 1)", setup, Edges.NONE, x -> x.fits(gate, 1));
            }
        }
    }

    /** 25: "NONE: .. what". */
    private static void fitsNoWhat() {
        for (Edges.Setup setup : Plants.ALL) {
            for (int what : Edges.outside(0, 1)) {
                E.still("25 NONE: fits(0, " + what + ")", setup, Edges.NONE, x -> x.fits(0, what));
            }
        }
    }

    /** 25, "all of SEEN would be so": of the last GATE, of six rows the last alone decides. */
    private static void fitsOfLastGate() {
        for (int odd = 0; odd < 6; odd++) {
            FaultGraph x = Plants.ofParts(6);
            for (int g = 0; g < 8; g++) {
                x.gate(2, 1);
            }
            x.join(7, true, 5);
            for (int n = 0; n < 6; n++) {
                x.see(n == odd ? 32 : 0, false);
            }
            E.due("25 row " + odd + " decides", x.fits(7, 0), 4);
            E.due("25 row " + odd + " decides", x.fits(7, 1), 2);
            E.due("25 a gate on which the top doesn't hang", x.fits(0, 0), 0);
            x.see(-1, true);
            x.see(0, false);
            E.due("25 a gate on which the top doesn't hang", x.fits(0, 0), 6);
        }
    }

    /** 26: "(NO: there are none)"; of EVER there is one of no PARTS. */
    private static void meanOfNeverAndEver() {
        for (int line = 0; line < 2; line++) {
            int of = line;
            E.still("26 NEVER: mean(" + line + ")", NEVER_THREE, NO, x -> x.mean(of));
            E.still("26 EVER: mean(" + line + ")", EVER_THREE, line, x -> x.mean(of));
            E.still("26 EVER, no parts: mean(" + line + ")", NO_PARTS, line, x -> x.mean(of));
        }
    }

    private static void mean(String name, FaultGraph x, long above, long below) {
        E.due("26 " + name + ", above", x.mean(0), above);
        E.due("26 " + name + ", below", x.mean(1), below);
    }

    /** 26: "a fraction in lowest terms". */
    private static void meanInLowestTerms() {
        mean("twenty of three", Plants.someOfSix(3), 3, 1);
        mean("fifteen of four", Plants.someOfSix(4), 4, 1);
        mean("one of six", Plants.allOfSix(0), 6, 1);
        mean("six of one", Plants.allOfSix(1), 1, 1);
        mean("one of one, one of two", Plants.SMALL.make(), 3, 2);
        FaultGraph x = Plants.someOfSix(3);
        x.join(4, true, 5);
        mean("one of one, ten of three", x, 31, 11);
    }

    /** 26: "NO: line". */
    private static void meanNoLine() {
        for (Edges.Setup setup : Plants.ALL) {
            for (int line : Edges.outside(0, 1)) {
                E.still("26 NO: mean(" + line + ")", setup, NO, x -> x.mean(line));
            }
        }
    }

    /** 26: "NO: .. no GATES". */
    private static void meanNoGates() {
        for (int line = 0; line < 2; line++) {
            int of = line;
            E.still("26 NO: mean(" + line + ")", Plants.NEW, NO, x -> x.mean(of));
            E.still("26 NO: mean(" + line + ")", Plants.NO_GATES, NO, x -> x.mean(of));
        }
    }

    /** 27: "A row comes to EVENTS: how many there are", 8 rows at most. */
    private static void eventsComeToEight() {
        for (int what = 0; what <= 3; what++) {
            FaultGraph x = Plants.oneGate(1, 0, 0);
            for (int n = 1; n <= 8; n++) {
                E.due("27 event(" + what + ", 0), row " + n, x.event(what, 0), n);
                E.due("27 there are", x.count(1), n);
            }
            E.due("27 the ninth", x.event(what, 0), Edges.FULL);
            E.due("27 there are", x.count(1), 8);
        }
    }

    /** 27: "what -1: none then, 0", whatever n is. */
    private static void eventMinusOne() {
        for (Edges.Setup setup : Plants.ALL) {
            for (int n : new int[] {Edges.LEAST, -1, 0, 7, 8, Edges.MOST}) {
                FaultGraph x = setup.make();
                E.due("27 event(-1, " + n + ")", x.event(-1, n), 0);
                E.due("27 none then", x.count(1), 0);
            }
        }
        E.still("27 event(-1, 0) of none", Plants.NEW, 0, x -> x.event(-1, 0));
        FaultGraph y = Plants.FULL.make();
        y.event(-1, 0);
        E.due("27 the first again", y.event(3, 7), 1);
    }

    /** 27: "NONE: what (0 .. 3)", which is named ahead of FULL. */
    private static void eventNoWhat() {
        for (Edges.Setup setup : Plants.ALL) {
            for (int what : Edges.outsideBut(0, 3, -1)) {
                E.still("27 NONE: event(" + what + ", 0)", setup, Edges.NONE, x -> x.event(what, 0));
            }
        }
    }

    /** 27: "NONE: .. PART .. n", which is named ahead of FULL; how many GATES there are does not matter. */
    private static void eventNoPart() {
        for (Edges.Setup setup : Plants.ALL) {
            for (int n : Edges.outside(0, setup.make().told(0) - 1)) {
                E.still("27 NONE: event(0, " + n + ")", setup, Edges.NONE, x -> x.event(0, n));
                E.still("27 NONE: event(1, " + n + ")", setup, Edges.NONE, x -> x.event(1, n));
            }
        }
        for (int what = 0; what <= 1; what++) {
            E.due("27 the last part of three, two gates", Plants.SMALL.make().event(what, 2), 3);
            E.due("27 the last part of six, no gates", Plants.ofParts(6).event(what, 5), 1);
        }
    }

    /** 27: "NONE: .. GATE n", which is named ahead of FULL; how many PARTS there are does not matter. */
    private static void eventNoGate() {
        for (Edges.Setup setup : Plants.ALL) {
            for (int n : Edges.outside(0, setup.make().told(1) - 1)) {
                E.still("27 NONE: event(2, " + n + ")", setup, Edges.NONE, x -> x.event(2, n));
                E.still("27 NONE: event(3, " + n + ")", setup, Edges.NONE, x -> x.event(3, n));
            }
        }
        for (int what = 2; what <= 3; what++) {
            E.due("27 the last gate of two", Plants.SMALL.make().event(what, 1), 3);
            FaultGraph x = new FaultGraph();
            for (int g = 0; g < 8; g++) {
                x.gate(0, 0);
            }
            E.due("27 the last gate of eight, no parts", x.event(what, 7), 1);
        }
    }

    /** 27: "FULL: 8". */
    private static void eventFull() {
        for (int what = 0; what <= 3; what++) {
            int of = what;
            E.still("27 FULL: event(" + what + ", 0)", Plants.FULL, Edges.FULL, x -> x.event(of, 0));
            E.still("27 FULL: event(" + what + ", 5)", Plants.FULL, Edges.FULL, x -> x.event(of, 5));
        }
    }

    /** 28: "NONE: what", which is named ahead of STATE. */
    private static void afterNone() {
        for (Edges.Setup setup : Plants.ALL) {
            for (int what : Edges.outside(0, 3)) {
                E.still("28 NONE: after(" + what + ")", setup, Edges.NONE, x -> x.after(what));
            }
        }
    }

    /** 28: "STATE: no GATES". */
    private static void afterState() {
        for (int what = 0; what <= 3; what++) {
            int of = what;
            E.still("28 STATE: after(" + what + ")", Plants.NEW, Edges.STATE, x -> x.after(of));
            E.still("28 STATE: after(" + what + ")", Plants.NO_GATES, Edges.STATE, x -> x.after(of));
        }
    }

    private static void after(String name, Edges.Setup setup, int... due) {
        for (int what = 0; what <= 3; what++) {
            int of = what;
            E.still("28 " + name + ", after(" + what + ")", setup, due[what], x -> x.after(of));
        }
    }

    /** 28: no EVENTS, so all is as it is. */
    private static void afterNoEvents() {
        after("no events", () -> Plants.oneGate(3, 2, 2), 3, 4, 0, 0);
        after("EVER", EVER_THREE, 1, 0, 1, 0);
        after("NEVER", NEVER_THREE, 0, 0, 0, 0);
    }

    /** 28: "3 MOST (-5: no PARTS)". */
    private static void afterNoParts() {
        after("no parts", NO_PARTS, 1, 0, 1, Edges.NOT_ANY);
        Edges.Setup any = () -> {
            FaultGraph x = NO_PARTS.make();
            x.event(3, 0);
            return x;
        };
        after("no parts, ANY", any, 0, 0, 0, Edges.NOT_ANY);
    }

    /** 28, "behind all of it": of two EVENTS of one PART or GATE the last holds. */
    private static void afterLastOfSeveral() {
        Edges.Setup anyLast = () -> {
            FaultGraph x = Plants.oneGate(3, 2, 2);
            x.event(2, 0);
            x.event(3, 0);
            return x;
        };
        after("ALL, then ANY", anyLast, 3, 3, 0, 0);
        Edges.Setup allLast = () -> {
            FaultGraph x = Plants.oneGate(3, 2, 2);
            x.event(3, 0);
            x.event(2, 0);
            return x;
        };
        after("ANY, then ALL", allLast, 1, 3, 0, 0);
        for (int last = 0; last <= 1; last++) {
            FaultGraph x = Plants.oneGate(2, 0, 0);
            x.event(1 - last, 0);
            x.event(last, 0);
            E.due("28 part 0 has odds " + 100 * last, x.after(3), last == 0 ? 0 : 1);
        }
    }

    /** 28: of eight EVENTS the first and the last count, of the last PART and the last GATE. */
    private static void afterEightEvents() {
        for (int at = 0; at < 8; at++) {
            FaultGraph x = Plants.ofParts(6);
            for (int g = 0; g < 8; g++) {
                x.gate(0, 0);
            }
            x.join(7, true, 4);
            x.join(7, true, 5);
            for (int n = 0; n < 8; n++) {
                x.event(n == at ? 3 : 2, n == at ? 7 : 0);
            }
            E.due("28 event " + at + " makes gate 7 ANY", x.after(0), 2);
            x.event(-1, 0);
            for (int n = 0; n < 8; n++) {
                x.event(1, n == at ? 4 : 0);
            }
            E.due("28 event " + at + " makes part 4 sure", x.after(3), 5);
            E.due("28 it isn't", x.told(7), 4);
        }
    }

    /** Two parts, the second of odds that are sure, and one event of the first: which part matters most. */
    private static int mostBehind(int kind, int otherOdds, int event) {
        FaultGraph x = Plants.oneGate(2, kind, 0);
        x.odds(0, 1, otherOdds);
        x.event(event, 0);
        return x.after(3);
    }

    /** 28, "0 ODDS of PART n are 0": with 1, or with less than 0, one of these would be otherwise. */
    private static void afterOddsAreJustZero() {
        E.due("28 ALL, both never fail: of two without weight the least", mostBehind(0, 0, 0), 0);
        E.due("28 ANY, both never fail: of two of all weight the least", mostBehind(1, 0, 0), 0);
        E.due("28 ALL, the other may fail", mostBehind(0, 1, 0), 0);
        E.due("28 ANY, the other may fail", mostBehind(1, 1, 0), 1);
    }

    /** 28, "1 they are 100": with 99, or with more than 100, one of these would be otherwise. */
    private static void afterOddsAreJustHundred() {
        E.due("28 ALL, both always fail: of two of all weight the least", mostBehind(0, 100, 1), 0);
        E.due("28 ANY, both always fail: of two without weight the least", mostBehind(1, 100, 1), 0);
        E.due("28 ALL, the other may work", mostBehind(0, 99, 1), 1);
        E.due("28 ANY, the other may work", mostBehind(1, 99, 1), 0);
    }

    /** 28, "whether TOP FAILS, if no PART does": ODDS of 100 don't make a PART fail there. */
    private static void afterFailsIfNoPartDoes() {
        FaultGraph x = Plants.oneGate(1, 1, 0);
        x.event(1, 0);
        E.due("28 a part that always fails", x.after(2), 0);
        x.cause(100, 1);
        E.due("28 a cause that always happens", x.after(2), 0);
        FaultGraph y = new FaultGraph();
        y.gate(1, 0);
        E.due("28 ANY of none", y.after(2), 0);
        y.event(2, 0);
        E.due("28 ALL of none", y.after(2), 1);
        y.event(3, 0);
        E.due("28 ANY of none again", y.after(2), 0);
    }

    /** 28: MOST behind EVENTS goes by CAUSES too. */
    private static void afterWithCauses() {
        FaultGraph x = Plants.oneGate(2, 0, 0);
        E.due("28 both alike: the least", x.after(3), 0);
        x.cause(50, 1);
        E.due("28 part 0 fails by a cause: part 1", x.after(3), 1);
        x.event(1, 1);
        E.due("28 part 1 always fails: 50 against 75", x.after(3), 1);
        x.odds(1, 0, 100);
        x.event(0, 1);
        E.due("28 part 0 always fails, part 1 never: part 1", x.after(3), 1);
    }

    /** 28: what is behind EVENTS is not so now. */
    private static void afterKeepsK() {
        FaultGraph x = Plants.oneGate(3, 2, 2);
        x.event(3, 0);
        x.event(1, 1);
        for (int what = 0; what <= 3; what++) {
            x.after(what);
        }
        E.due("28 its kind stays", x.of(1, 0, 0), 2);
        E.due("28 its k stays", x.of(1, 0, 1), 2);
        E.due("28 odds stay", x.of(0, 1, 0), 50);
        E.due("28 cuts stay", x.told(5), 3);
        E.due("28 events stay", x.count(1), 2);
    }

    /** 29: "A row comes to the BOOK: how many there are", 8 rows at most. */
    private static void booksComeToEight() {
        FaultGraph x = Plants.ofParts(6);
        for (int n = 1; n <= 8; n++) {
            E.due("29 row " + n, x.book(63), n);
            E.due("29 there are", x.count(2), n);
        }
        E.due("29 the ninth", x.book(63), Edges.FULL);
        E.due("29 there are", x.count(2), 8);
    }

    /** 29, BITS: all that PARTS there are can have. */
    private static void bookTakesBits() {
        for (int parts = 0; parts <= 6; parts++) {
            for (int bits = 0; bits < 1 << parts; bits++) {
                E.due("29 of " + parts + " parts book(" + bits + ")", Plants.ofParts(parts).book(bits), 1);
            }
        }
    }

    /** 29: "bits -1: it is empty then, 0". */
    private static void bookMinusOne() {
        for (Edges.Setup setup : Plants.ALL) {
            FaultGraph x = setup.make();
            E.due("29 book(-1)", x.book(-1), 0);
            E.due("29 empty then", x.count(2), 0);
            E.due("29 the first again", x.book(0), 1);
        }
        E.still("29 book(-1) of an empty one", Plants.NEW, 0, x -> x.book(-1));
    }

    /** 29: "BAD: bits", which is named ahead of FULL. */
    private static void bookBadBits() {
        for (int parts = 0; parts <= 6; parts++) {
            int many = parts;
            Edges.Setup setup = () -> Plants.ofParts(many);
            for (int bits : Edges.outsideBut(0, (1 << parts) - 1, -1)) {
                E.still("29 BAD: of " + parts + " parts book(" + bits + ")", setup, Edges.BAD, x -> x.book(bits));
            }
        }
        for (int bits : Edges.outsideBut(0, 63, -1)) {
            E.still("29 BAD: book(" + bits + ")", Plants.FULL, Edges.BAD, x -> x.book(bits));
        }
    }

    /** 29: "FULL: 8". */
    private static void bookFull() {
        for (int bits = 0; bits < 64; bits += 21) {
            int set = bits;
            E.still("29 FULL: book(" + bits + ")", Plants.FULL, Edges.FULL, x -> x.book(set));
        }
    }

    /** 30: "STATE: no GATES", whether the BOOK has rows or none. */
    private static void lookedState() {
        E.still("30 STATE: an empty book", Plants.NEW, Edges.STATE, FaultGraph::looked);
        E.still("30 STATE: a book of one row", Plants.NO_GATES, Edges.STATE, FaultGraph::looked);
    }

    /** 30: "-5", none: an empty BOOK, and one with eight rows that are all among CUTS. */
    private static void lookedEmpty() {
        E.still("30 an empty book", () -> Plants.oneGate(3, 2, 2), Edges.NOT_ANY, FaultGraph::looked);
        E.still("30 eight cuts", () -> booked(8), Edges.NOT_ANY, FaultGraph::looked);
    }

    /** Two of three parts are a cut; just one row of the book, if there is such a row, is none. */
    private static FaultGraph booked(int wrong) {
        FaultGraph x = Plants.oneGate(3, 2, 2);
        int[] cuts = {3, 5, 6};
        for (int n = 0; n < 8; n++) {
            x.book(n == wrong ? 7 : cuts[n % 3]);
        }
        return x;
    }

    /** 30: "the number of the first of these rows that isn't among CUTS", from 0 to 7. */
    private static void lookedOfEach() {
        for (int wrong = 0; wrong < 8; wrong++) {
            int n = wrong;
            E.still("30 row " + n, () -> booked(n), n, FaultGraph::looked);
        }
        FaultGraph x = booked(8);
        x.book(-1);
        x.book(7);
        x.book(1);
        E.due("30 of two the first", x.looked(), 0);
    }

    /** 30: of NEVER no row is among CUTS, of EVER the empty set alone. */
    private static void lookedNeverAndEver() {
        FaultGraph never = NEVER_THREE.make();
        E.due("30 NEVER, an empty book", never.looked(), Edges.NOT_ANY);
        never.book(0);
        E.due("30 NEVER, the empty set", never.looked(), 0);
        FaultGraph ever = EVER_THREE.make();
        ever.book(0);
        E.due("30 EVER, the empty set", ever.looked(), Edges.NOT_ANY);
        ever.book(1);
        E.due("30 EVER, another one", ever.looked(), 1);
    }
}
