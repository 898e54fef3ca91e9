/** Promises 11 and 12 at their edges: a test for each sentence that names one. */
public final class EdgesTextTest {
    private static final Edges E = new Edges("EdgesTextTest");
    private static final String SIXTEEN = "a;".repeat(15) + "o";
    private static final String DIGITS = "0123456789";

    public static void main(String[] args) {
        feedTakesSigns();
        feedBad();
        feedFull();
        readEmptiesIt();
        readEmptyText();
        readClausesToSixteen();
        readOddsDigits();
        readOddsOfThreeDigits();
        readOneDigit();
        readPartsOfCause();
        readNothingBetween();
        readEndsTooEarly();
        readEachSignBehindEachBeginning();
        readFaultAtTheLastByte();
        readWithFaultNothingIsDone();
        readOneBehindTheOther();
        readRefusedClausesArent();
        readWhatCouldJustCome();
        readKs();
        readLeavesTopByHand();
        E.finish();
    }

    private static FaultGraph fed(String text) {
        FaultGraph x = new FaultGraph();
        Plants.feedAll(x, text);
        return x;
    }

    private static void read(String text, int due) {
        FaultGraph x = fed(text);
        E.due("12 bytes of " + text, x.count(3), text.length());
        E.due("12 read " + text, x.read(), due);
        E.due("12 is empty then", x.count(3), 0);
    }

    private static void fault(String text, int place) {
        read(text, -10 - place);
    }

    /** 11: "A sign (0 .. 127) comes behind THE TEXT's: how many it has." */
    private static void feedTakesSigns() {
        for (int sign = 0; sign <= 127; sign++) {
            FaultGraph x = new FaultGraph();
            E.due("11 feed(" + sign + ")", x.feed(sign), 1);
            E.due("11 behind it", x.feed(127 - sign), 2);
            E.due("11 bytes", x.count(3), 2);
        }
        FaultGraph x = fed("p1");
        x.feed('2');
        x.read();
        E.due("11 it comes behind", x.of(0, 0, 0), 12);
    }

    /** 11: "BAD", which is named ahead of FULL. */
    private static void feedBad() {
        for (Edges.Setup setup : Plants.ALL) {
            for (int sign : Edges.outside(0, 127)) {
                E.still("11 BAD: feed(" + sign + ")", setup, Edges.BAD, x -> x.feed(sign));
            }
            E.still("11 BAD: a sign of eight bits", setup, Edges.BAD, x -> x.feed('p' + 128));
        }
    }

    /** 11: "FULL", THE TEXT has 100 bytes at most. */
    private static void feedFull() {
        FaultGraph y = new FaultGraph();
        for (int n = 1; n <= 100; n++) {
            E.due("11 the " + n + "th", y.feed(';'), n);
        }
        E.due("11 the 101st", y.feed(';'), Edges.FULL);
        E.due("11 it has", y.count(3), 100);
        for (int sign : new int[] {0, 'a', ';', 127}) {
            E.still("11 FULL: feed(" + sign + ")", Plants.FULL, Edges.FULL, x -> x.feed(sign));
        }
    }

    /** 12: "THE TEXT, which is empty then": with or without a fault, and whatever was done. */
    private static void readEmptiesIt() {
        for (String text : new String[] {"a", "x", "p1;x", "s9", "", Plants.HUNDRED}) {
            FaultGraph x = fed(text);
            x.read();
            E.due("12 empty behind " + text, x.count(3), 0);
            E.due("12 and once more", x.read(), -10);
            E.due("12 one comes first again", x.feed('o'), 1);
            E.due("12 and is read alone", x.read(), 1);
        }
        FaultGraph x = Plants.FULL.make();
        x.read();
        for (int n = 1; n <= 100; n++) {
            E.due("12 room for a hundred again", x.feed('p'), n);
        }
        E.due("12 and no more", x.feed('p'), Edges.FULL);
    }

    /** 12, "the end of THE TEXT, if it ends too early": it has no bytes. */
    private static void readEmptyText() {
        for (Edges.Setup setup : new Edges.Setup[] {Plants.NEW, () -> Plants.oneGate(3, 2, 2)}) {
            E.still("12 an empty text", setup, -10, FaultGraph::read);
        }
    }

    /** 12: "CLAUSES, 1 to 16, with ; between". */
    private static void readClausesToSixteen() {
        for (int many = 1; many <= 16; many++) {
            read("a;".repeat(many - 1) + "o", Math.min(many, 8));
        }
        fault(SIXTEEN + ";", SIXTEEN.length());
        fault(SIXTEEN + ";a", SIXTEEN.length());
        fault(SIXTEEN + "a", SIXTEEN.length());
        fault("a;".repeat(15), 30);
        fault(";a", 0);
        fault("a;;a", 2);
        fault("a;", 2);
        FaultGraph x = fed(SIXTEEN + ";p1");
        x.read();
        E.due("12 of seventeen none is done", x.told(1), 0);
    }

    /** 12: "ODDS: 1 to 3 digits". */
    private static void readOddsDigits() {
        fault("p", 1);
        fault("p;a", 1);
        read("p7", 1);
        read("p77", 1);
        read("p077", 1);
        fault("p0077", 4);
        fault("c", 1);
        fault("cp0", 1);
        read("p0;c7p0", 2);
        read("p0;c77p0", 2);
        read("p0;c077p0", 2);
        fault("p0;c0077p0", 7);
        for (int odds = 0; odds <= 100; odds++) {
            FaultGraph x = fed("p" + odds + ";c" + odds + "p0");
            E.due("12 odds " + odds, x.read(), 2);
            E.due("12 part of odds " + odds, x.of(0, 0, 0), odds);
            E.due("12 cause of odds " + odds, x.of(2, 0, 0), odds);
        }
    }

    /** 12, "those that would be refused aren't": odds of three digits, but above 100, are no fault. */
    private static void readOddsOfThreeDigits() {
        read("p100", 1);
        read("p101", 0);
        read("p999", 0);
        read("p0;c100p0", 2);
        read("p0;c101p0", 1);
        read("p0;c999p0", 1);
        read("p000;c000p0", 2);
    }

    /** 12: "all else: a digit". */
    private static void readOneDigit() {
        fault("s", 1);
        fault("s00", 2);
        fault("j", 1);
        fault("j00p0", 2);
        fault("j0p", 3);
        fault("j0p00", 4);
        fault("j0g", 3);
        fault("j0g00", 4);
        fault("c0p", 3);
        fault("c0p00", 4);
        for (int n = 0; n <= 9; n++) {
            read("s" + n, n <= 5 ? 1 : 0);
            read("p1;a;j" + n + "p0", n == 0 ? 3 : 2);
            read("p1;a;j0p" + n, n == 0 ? 3 : 2);
            read("a;a;a;j2g" + n, n < 2 ? 4 : 3);
            read("p1;c1p" + n, n == 0 ? 2 : 1);
        }
    }

    /** 12: "for each PART (1 to 4) p PART". */
    private static void readPartsOfCause() {
        String parts = "p1;p1;p1;p1;p1;p1;";
        fault(parts + "c1", 20);
        fault(parts + "c1;a", 20);
        String cause = "c1";
        for (int many = 1; many <= 4; many++) {
            cause += "p" + (6 - many);
            FaultGraph x = fed(parts + cause);
            E.due("12 a cause of " + many, x.read(), 7);
            E.due("12 its bits", x.of(2, 0, 1), 64 - (64 >> many));
        }
        fault(parts + cause + "p1", 28);
        FaultGraph x = fed(parts + "c1p3p3p3p3");
        E.due("12 one part four times", x.read(), 7);
        E.due("12 is in the set once", x.of(2, 0, 1), 8);
    }

    /** 12: "Nothing stands between." */
    private static void readNothingBetween() {
        for (char gap : new char[] {' ', '\n', '\t', ',', 0, 127, '+', '-'}) {
            fault(gap + "a", 0);
            fault("p" + gap + "1", 1);
            fault("a" + gap + ";a", 1);
            fault("a;" + gap + "a", 2);
            fault("j0" + gap + "p0", 2);
            fault("j0p" + gap + "0", 3);
            fault("c1p0" + gap + "p1", 4);
            fault("a" + gap, 1);
        }
    }

    /** 12: "The FAULT: .. (the end of THE TEXT, if it ends too early)", for all beginnings of a long text. */
    private static void readEndsTooEarly() {
        String text = "p1;a;s2;j0p0;j1g0;c5p0p0p0p0;o";
        for (int length = 0; length < text.length(); length++) {
            FaultGraph x = fed(text.substring(0, length));
            boolean mayEnd = length > 0 && mayEnd(text.substring(0, length));
            int got = x.read();
            E.due("12 is a whole set-up: " + text.substring(0, length), got >= 0 ? 1 : 0, mayEnd ? 1 : 0);
            if (!mayEnd) {
                E.due("12 ends too early: " + text.substring(0, length), got, -10 - length);
            }
        }
        read(text, 7);
    }

    private static boolean mayEnd(String text) {
        String clause = text.substring(text.lastIndexOf(';') + 1);
        return clause.matches("p\\d|a|o|s\\d|j\\dp\\d|j\\dg\\d|c\\d(p\\d)+");
    }

    private static void follows(String beginning, String signs) {
        for (int sign = 0; sign <= 127; sign++) {
            FaultGraph x = fed(beginning);
            x.feed(sign);
            boolean isFaultHere = x.read() == -10 - beginning.length();
            boolean mayFollow = signs.indexOf(sign) >= 0;
            E.due("12 behind '" + beginning + "' the sign " + sign, isFaultHere ? 0 : 1, mayFollow ? 1 : 0);
        }
    }

    /** 12: "the place of the first byte with which none begins so", for all bytes at all places of a clause. */
    private static void readEachSignBehindEachBeginning() {
        for (String ahead : new String[] {"", "a;", "a;".repeat(15)}) {
            String end = ahead.length() < 30 ? ";" : "";
            follows(ahead, "paosjc");
            follows(ahead + "p", DIGITS);
            follows(ahead + "p1", DIGITS + end);
            follows(ahead + "p12", DIGITS + end);
            follows(ahead + "p123", end);
            follows(ahead + "a", end);
            follows(ahead + "o", end);
            follows(ahead + "s", DIGITS);
            follows(ahead + "s1", end);
            follows(ahead + "j", DIGITS);
            follows(ahead + "j1", "pg");
            follows(ahead + "j1p", DIGITS);
            follows(ahead + "j1g", DIGITS);
            follows(ahead + "j1p1", end);
            follows(ahead + "j1g1", end);
            follows(ahead + "c", DIGITS);
            follows(ahead + "c1", DIGITS + "p");
            follows(ahead + "c12", DIGITS + "p");
            follows(ahead + "c123", "p");
            follows(ahead + "c1p", DIGITS);
            follows(ahead + "c1p1", "p" + end);
            follows(ahead + "c1p1p1p1", "p" + end);
            follows(ahead + "c1p1p1p1p1", end);
        }
    }

    /** 12: a fault at the hundredth byte, one behind it, and none. */
    private static void readFaultAtTheLastByte() {
        String ninetyNine = Plants.HUNDRED.substring(0, 99);
        read(Plants.HUNDRED, 3);
        fault(ninetyNine, 99);
        fault(ninetyNine + "x", 99);
        fault(ninetyNine + "p", 100);
        fault("x" + ninetyNine, 0);
    }

    /** 12, "Without FAULT they are done": with one nothing is, wherever it stands. */
    private static void readWithFaultNothingIsDone() {
        String text = "p9;o;j2p0;c1p0;";
        for (Edges.Setup setup : new Edges.Setup[] {Plants.NEW, () -> Plants.oneGate(2, 2, 1)}) {
            FaultGraph x = setup.make();
            Plants.feedAll(x, text);
            E.due("12 a fault at the end", x.read(), -10 - text.length());
            E.same("12 nothing is done", Look.at(x), Look.at(setup.make()));
        }
    }

    /** 12: "they are done, one behind the other". */
    private static void readOneBehindTheOther() {
        FaultGraph x = fed("j0p0;a;j0p0;p1;j0p0;c1p1;p2;c1p1");
        E.due("12 what isn't there yet is refused", x.read(), 5);
        E.due("12 one input", x.of(1, 0, 2), 1);
        E.due("12 one cause", x.told(2), 1);
        FaultGraph y = fed("p1;p2;p3;p4;p5;p6");
        E.due("12 six parts", y.read(), 6);
        for (int p = 0; p < 6; p++) {
            E.due("12 as they come", y.of(0, p, 0), p + 1);
        }
    }

    /** 12: "those that would be refused aren't", and the others are all the same. */
    private static void readRefusedClausesArent() {
        FaultGraph full = Plants.FULL.make();
        E.due("12 all are refused", full.read(), 0);
        for (String clause : new String[] {"p5", "a", "o", "s0", "j7p0", "j7g0", "c1p0", "j8p0", "s6", "p101"}) {
            Plants.feedAll(full, clause);
            E.due("12 of a full plant " + clause, full.read(), 0);
        }
        E.due("12 its parts", full.told(0), 6);
        E.due("12 its gates", full.told(1), 8);
        E.due("12 its causes", full.told(2), 3);
        E.due("12 its inputs", full.of(1, 7, 2), 4);
        FaultGraph x = fed("p101;p1;s6;a;j0g0;j0p1;j0p0;c5p1;c5p0");
        E.due("12 others are done", x.read(), 4);
        E.due("12 one part", x.told(0), 1);
        E.due("12 one gate", x.told(1), 1);
        E.due("12 one input", x.of(1, 0, 2), 1);
        E.due("12 one cause", x.told(2), 1);
    }

    /** 12: the last PART, GATE, INPUT and CAUSE that still come by a text. */
    private static void readWhatCouldJustCome() {
        read("p1;".repeat(6) + "p1", 6);
        read("o;".repeat(8) + "o", 8);
        read("p1;a;" + "j0p0;".repeat(4) + "j0p0", 6);
        read("p1;" + "c1p0;".repeat(3) + "c1p0", 4);
        read("a;a;j1g0;j1g1;j0g1", 3);
        FaultGraph x = fed("o;".repeat(7) + "o;j7g6;p1;p1;p1;p1;p1;p1;j7p5");
        E.due("12 the last gate and the last part", x.read(), 16);
        E.due("12 gate 6", x.of(1, 7, 3), 16);
        E.due("12 part 5", x.of(1, 7, 4), 5);
    }

    /** 12: "a (a GATE ALL 0 comes), o (ANY 0), s k (SOME k)". */
    private static void readKs() {
        FaultGraph x = fed("a;o;s0;s5");
        E.due("12 four gates", x.read(), 4);
        int[] kinds = {0, 1, 2, 2};
        int[] ks = {0, 0, 0, 5};
        for (int g = 0; g < 4; g++) {
            E.due("12 kind of " + g, x.of(1, g, 0), kinds[g]);
            E.due("12 k of " + g, x.of(1, g, 1), ks[g]);
            E.due("12 no inputs of " + g, x.of(1, g, 2), 0);
        }
    }

    /** 12 and 7: a GATE that comes by a text leaves a TOP told by hand, and is TOP else. */
    private static void readLeavesTopByHand() {
        FaultGraph x = fed("a;a");
        x.read();
        E.due("12 the last is top", x.told(3), 1);
        x.top(0);
        Plants.feedAll(x, "a;a");
        E.due("12 two more", x.read(), 2);
        E.due("12 the top by hand", x.told(3), 0);
    }
}
