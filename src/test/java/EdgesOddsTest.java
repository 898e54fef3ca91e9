import java.math.BigInteger;

/** Promises 21 to 23 at their edges: a test for each sentence that names one. */
public final class EdgesOddsTest {
    private static final Edges E = new Edges("EdgesOddsTest");
    private static final long NO = Edges.NO;
    private static final long ALL_OF_IT = 1_000_000_000_000_000_000L;
    private static final Edges.Setup NO_CAUSES = () -> Plants.oneGate(2, 0, 0);
    private static final Edges.Setup NO_PARTS = () -> {
        FaultGraph x = Plants.oneGate(0, 0, 0);
        x.cause(50, 0);
        return x;
    };

    public static void main(String[] args) {
        chanceOfNeverAndEver();
        chanceOfSureParts();
        chanceInLowestTerms();
        chanceOfNineSources();
        chanceNoLine();
        chanceNoGates();
        givenWhatCannotBe();
        givenOfEachCause();
        givenEmptySet();
        givenNoCause();
        givenNoLine();
        givenNoGates();
        weightOfOneAndNone();
        weightOfSureOdds();
        weightOfNineSources();
        weightNoPart();
        weightNoLine();
        weightNoGates();
        E.finish();
    }

    private static void chance(String name, FaultGraph x, long above, long below) {
        E.due(name + ", above", x.chance(0), above);
        E.due(name + ", below", x.chance(1), below);
    }

    private static void given(String name, FaultGraph x, int cause, boolean isSo, long above, long below) {
        E.due(name + ", above", x.given(cause, isSo, 0), above);
        E.due(name + ", below", x.given(cause, isSo, 1), below);
    }

    private static void weight(String name, FaultGraph x, int part, long above, long below) {
        E.due(name + ", above", x.weight(part, 0), above);
        E.due(name + ", below", x.weight(part, 1), below);
    }

    /** Nine sources of the same odds, each of which breaks one part; any or all parts bring down the top. */
    private static FaultGraph nine(int kind, int odds) {
        FaultGraph x = Plants.allOfSix(kind);
        for (int p = 0; p < 6; p++) {
            x.odds(0, p, odds);
        }
        for (int c = 0; c < 3; c++) {
            x.cause(odds, 1 << c);
        }
        return x;
    }

    /** 21: "a fraction in lowest terms", 0 and 1 of one. */
    private static void chanceOfNeverAndEver() {
        for (int parts = 0; parts <= 6; parts++) {
            chance("21 EVER of " + parts, Plants.oneGate(parts, 2, 0), 1, 1);
            chance("21 NEVER of " + parts, Plants.oneGate(parts, 2, 5), 0, 1);
        }
    }

    /** 21: ODDS of 0 and of 100. */
    private static void chanceOfSureParts() {
        FaultGraph x = Plants.oneGate(1, 0, 0);
        x.odds(0, 0, 0);
        chance("21 it never fails", x, 0, 1);
        x.odds(0, 0, 100);
        chance("21 it always fails", x, 1, 1);
        x.odds(0, 0, 1);
        chance("21 one of a hundred", x, 1, 100);
        x.odds(0, 0, 99);
        chance("21 ninety-nine of a hundred", x, 99, 100);
        x.cause(100, 0);
        chance("21 a cause of no parts", x, 99, 100);
        x.cause(0, 1);
        chance("21 a cause that never happens", x, 99, 100);
        x.cause(100, 1);
        chance("21 a cause that always happens", x, 1, 1);
    }

    /** 21: "in lowest terms", for all ODDS of one PART. */
    private static void chanceInLowestTerms() {
        for (int odds = 0; odds <= 100; odds++) {
            FaultGraph x = Plants.oneGate(1, 1, 0);
            x.odds(0, 0, odds);
            int common = BigInteger.valueOf(odds).gcd(BigInteger.valueOf(100)).intValue();
            chance("21 odds " + odds, x, odds / common, 100 / common);
        }
    }

    /** 21: six PARTS and three CAUSES, so that 100 to the ninth stands below the line. */
    private static void chanceOfNineSources() {
        chance("21 any of nine, odds 99", nine(1, 99), ALL_OF_IT - 1, ALL_OF_IT);
        chance("21 any of nine, odds 1", nine(1, 1), ALL_OF_IT - 913517247483640899L, ALL_OF_IT);
        chance("21 any of nine, odds 0", nine(1, 0), 0, 1);
        chance("21 any of nine, odds 100", nine(1, 100), 1, 1);
        // three parts fail by odds or cause, 199 of 10000 each, three by odds alone
        chance("21 all of nine, odds 1", nine(0, 1), 199L * 199 * 199, ALL_OF_IT);
        chance("21 all of nine, odds 100", nine(0, 100), 1, 1);
        chance("21 all of nine, odds 99", nine(0, 99), 9999L * 9999 * 9999 * 99 * 99 * 99, ALL_OF_IT);
    }

    /** 21: "NO: part". */
    private static void chanceNoLine() {
        for (Edges.Setup setup : Plants.ALL) {
            for (int line : Edges.outside(0, 1)) {
                E.still("21 NO: chance(" + line + ")", setup, NO, x -> x.chance(line));
            }
        }
    }

    /** 21: "NO: .. no GATES". */
    private static void chanceNoGates() {
        for (int line = 0; line < 2; line++) {
            int of = line;
            E.still("21 NO: chance(" + line + ")", Plants.NEW, NO, x -> x.chance(of));
            E.still("21 NO: chance(" + line + ")", Plants.NO_GATES, NO, x -> x.chance(of));
        }
        E.still("21 no parts", NO_PARTS, 1, x -> x.chance(0));
    }

    /** 22, "CHANCE, if that is so": also if ODDS of 0 and of 100 say that it is not. */
    private static void givenWhatCannotBe() {
        for (int odds = 0; odds <= 100; odds += 50) {
            FaultGraph x = Plants.oneGate(2, 0, 0);
            x.cause(odds, 1);
            given("22 odds " + odds + ", it happens", x, 0, true, 1, 2);
            given("22 odds " + odds + ", it doesn't", x, 0, false, 1, 4);
            E.due("22 its odds stay", x.of(2, 0, 0), odds);
        }
    }

    /** 22: the least and the greatest CAUSE, each by itself. */
    private static void givenOfEachCause() {
        FaultGraph x = nine(1, 1);
        FaultGraph all = nine(0, 1);
        for (int c = 0; c < 3; c++) {
            given("22 any, cause " + c + " happens", x, c, true, 1, 1);
            given("22 any, cause " + c + " doesn't", x, c, false,
                ALL_OF_IT / 100 - 9227446944279201L, ALL_OF_IT / 100);
            given("22 all, cause " + c + " happens", all, c, true, 199L * 199, ALL_OF_IT / 10000);
            given("22 all, cause " + c + " doesn't", all, c, false, 199L * 199, ALL_OF_IT / 100);
        }
    }

    /** 22: a CAUSE of no PARTS. */
    private static void givenEmptySet() {
        FaultGraph x = Plants.oneGate(1, 0, 0);
        x.cause(30, 0);
        given("22 it happens", x, 0, true, 1, 2);
        given("22 it doesn't", x, 0, false, 1, 2);
        given("22 no parts, it happens", NO_PARTS.make(), 0, true, 1, 1);
    }

    /** 22: "NO: cause". */
    private static void givenNoCause() {
        for (Edges.Setup setup : new Edges.Setup[] {Plants.SMALL, Plants.FULL, NO_CAUSES}) {
            for (int cause : Edges.outside(0, setup.make().told(2) - 1)) {
                for (int line = 0; line < 2; line++) {
                    int of = line;
                    E.still("22 NO: given(" + cause + ", true, " + line + ")", setup, NO, x -> x.given(cause, true, of));
                    E.still("22 NO: given(" + cause + ", false, " + line + ")", setup, NO, x -> x.given(cause, false, of));
                }
            }
        }
    }

    /** 22: "NO: .. part". */
    private static void givenNoLine() {
        for (Edges.Setup setup : Plants.ALL) {
            for (int line : Edges.outside(0, 1)) {
                E.still("22 NO: given(0, true, " + line + ")", setup, NO, x -> x.given(0, true, line));
                E.still("22 NO: given(0, false, " + line + ")", setup, NO, x -> x.given(0, false, line));
            }
        }
    }

    /** 22: "NO: .. no GATES". */
    private static void givenNoGates() {
        for (int line = 0; line < 2; line++) {
            int of = line;
            E.still("22 NO: given(0, true, " + line + ")", Plants.NEW, NO, x -> x.given(0, true, of));
            E.still("22 NO: given(0, true, " + line + ")", Plants.NO_GATES, NO, x -> x.given(0, true, of));
            E.still("22 NO: given(0, false, " + line + ")", Plants.NO_GATES, NO, x -> x.given(0, false, of));
        }
    }

    /** 23: "a fraction in lowest terms", 0 and 1 of one. */
    private static void weightOfOneAndNone() {
        FaultGraph x = Plants.oneGate(1, 0, 0);
        x.part(50);
        weight("23 the top is it", x, 0, 1, 1);
        weight("23 nothing hangs on it", x, 1, 0, 1);
        for (int part = 0; part < 3; part++) {
            weight("23 EVER", Plants.oneGate(3, 2, 0), part, 0, 1);
            weight("23 NEVER", Plants.oneGate(3, 2, 4), part, 0, 1);
        }
        x.cause(100, 1);
        weight("23 a cause breaks it in any case", x, 0, 0, 1);
        x.odds(1, 0, 99);
        weight("23 a cause breaks it nearly always", x, 0, 1, 100);
    }

    /** 23, "were its ODDS 100, less .. were they 0": what they are does not matter. */
    private static void weightOfSureOdds() {
        for (int odds : new int[] {0, 1, 50, 99, 100}) {
            FaultGraph x = Plants.oneGate(2, 0, 0);
            x.odds(0, 0, odds);
            weight("23 odds " + odds, x, 0, 1, 2);
            E.due("23 they stay", x.of(0, 0, 0), odds);
        }
    }

    /** 23: six PARTS and three CAUSES; the least and the greatest PART. */
    private static void weightOfNineSources() {
        FaultGraph x = nine(1, 1);
        for (int part = 0; part < 6; part++) {
            weight("23 any, part " + part, x, part, 9227446944279201L, ALL_OF_IT / 100);
        }
        FaultGraph y = nine(0, 99);
        weight("23 all, part 0", y, 0, 9999L * 9999 * 99 * 99 * 99, ALL_OF_IT / 100);
        weight("23 all, part 5", y, 5, 9999L * 9999 * 9999 * 99 * 99, ALL_OF_IT / 100);
    }

    /** 23: "NO: part". */
    private static void weightNoPart() {
        for (Edges.Setup setup : new Edges.Setup[] {Plants.SMALL, Plants.FULL, NO_PARTS}) {
            for (int part : Edges.outside(0, setup.make().told(0) - 1)) {
                E.still("23 NO: weight(" + part + ", 0)", setup, NO, x -> x.weight(part, 0));
                E.still("23 NO: weight(" + part + ", 1)", setup, NO, x -> x.weight(part, 1));
            }
        }
    }

    /** 23: "NO: .. line". */
    private static void weightNoLine() {
        for (Edges.Setup setup : Plants.ALL) {
            for (int line : Edges.outside(0, 1)) {
                E.still("23 NO: weight(0, " + line + ")", setup, NO, x -> x.weight(0, line));
            }
        }
    }

    /** 23: "NO: .. no GATES". */
    private static void weightNoGates() {
        for (int line = 0; line < 2; line++) {
            int of = line;
            for (int part = 0; part < 3; part++) {
                int n = part;
                E.still("23 NO: weight(" + n + ", " + line + ")", Plants.NEW, NO, x -> x.weight(n, of));
                E.still("23 NO: weight(" + n + ", " + line + ")", Plants.NO_GATES, NO, x -> x.weight(n, of));
            }
        }
    }
}
