/** Promises 11 and 12: the text is fed and read. */
public final class TextTest {
    private static final Check CHECK = new Check("TextTest");

    public static void main(String[] args) {
        feed();
        faults();
        lastFaults();
        clausesAreDone();
        refusedClausesArent();
        CHECK.finish();
    }

    private static void feedAll(FaultGraph x, String text) {
        for (int i = 0; i < text.length(); i++) {
            x.feed(text.charAt(i));
        }
    }

    private static int readNew(String text) {
        FaultGraph x = new FaultGraph();
        feedAll(x, text);
        return x.read();
    }

    private static void feed() {
        FaultGraph x = new FaultGraph();
        CHECK.due("11 below", x.feed(-1), -2);
        CHECK.due("11 above", x.feed(128), -2);
        CHECK.due("11 bad ones don't come", x.count(3), 0);
        CHECK.due("11 sign 0", x.feed(0), 1);
        CHECK.due("11 sign 127", x.feed(127), 2);
        for (int n = 3; n <= 100; n++) {
            CHECK.due("11 the " + n + "th", x.feed('p'), n);
        }
        CHECK.due("11 full", x.feed('p'), -4);
        CHECK.due("11 full and bad", x.feed(128), -2);
        CHECK.due("11 how many", x.count(3), 100);
        CHECK.due("12 a fault", x.read(), -10);
        CHECK.due("12 the text is empty then", x.count(3), 0);
        CHECK.due("11 there is room again", x.feed('a'), 1);
    }

    private static void fault(String text, int place) {
        CHECK.due("12 fault of " + text, readNew(text), -10 - place);
    }

    private static void faults() {
        fault("", 0);
        fault("x", 0);
        fault(";", 0);
        fault("P1", 0);
        fault("g0", 0);
        fault("p", 1);
        fault("px", 1);
        fault("p 1", 1);
        fault("p1234", 4);
        fault("p1x", 2);
        fault("p1;", 3);
        fault("p1;;", 3);
        fault("p1 ;", 2);
        fault("aa", 1);
        fault("a0", 1);
        fault("o0", 1);
        fault("s", 1);
        fault("sa", 1);
        fault("s12", 2);
        fault("j", 1);
        fault("jp", 1);
        fault("j0", 2);
        fault("j0x", 2);
        fault("j00p0", 2);
        fault("j0p", 3);
        fault("j0g", 3);
        fault("j0pp", 3);
        fault("j0p00", 4);
        fault("c", 1);
        fault("cp0", 1);
        fault("c5", 2);
        fault("c5;a", 2);
        fault("c5000p0", 4);
        fault("c500p", 5);
        fault("c5g0", 2);
        fault("c5p0p", 5);
        fault("c5p0p1p2p3p4", 10);
        fault("c5p01", 4);
        fault("c5p0p1p2p3;", 11);
    }

    private static void lastFaults() {
        String sixteen = "a;o;s0;a;o;s0;a;o;s0;a;o;s0;a;o;s0;a";
        CHECK.due("12 sixteen clauses, eight done", readNew(sixteen), 8);
        fault(sixteen + ";", sixteen.length());
        fault(sixteen + ";a", sixteen.length());
        String ninetyEight = "c100p0p1p2p3;".repeat(7) + "p1;p001";
        CHECK.due("12 a long one", readNew(ninetyEight), 2);
        String hundred = "c100p0p1p2p3;".repeat(7) + "p1;p001;a";
        CHECK.due("12 its length", hundred.length(), 100);
        CHECK.due("12 a hundred signs", readNew(hundred), 3);
        fault("c100p0p1p2p3;".repeat(7) + "p1;p001;p", 100);
    }

    private static void clausesAreDone() {
        FaultGraph x = new FaultGraph();
        feedAll(x, "p007;p100;p0;a;o;s5;j0p1;j2g0;j2p2;c050p0p2p0");
        CHECK.due("12 all are done", x.read(), 10);
        CHECK.due("12 odds 7", x.of(0, 0, 0), 7);
        CHECK.due("12 odds 100", x.of(0, 1, 0), 100);
        CHECK.due("12 odds 0", x.of(0, 2, 0), 0);
        CHECK.due("12 ALL", x.of(1, 0, 0), 0);
        CHECK.due("12 ALL 0", x.of(1, 0, 1), 0);
        CHECK.due("12 ANY", x.of(1, 1, 0), 1);
        CHECK.due("12 ANY 0", x.of(1, 1, 1), 0);
        CHECK.due("12 SOME", x.of(1, 2, 0), 2);
        CHECK.due("12 SOME 5", x.of(1, 2, 1), 5);
        CHECK.due("12 a part as input", x.of(1, 0, 3), 1);
        CHECK.due("12 a gate as input", x.of(1, 2, 3), 10);
        CHECK.due("12 a part behind it", x.of(1, 2, 4), 2);
        CHECK.due("12 the cause's odds", x.of(2, 0, 0), 50);
        CHECK.due("12 the cause's set", x.of(2, 0, 1), 5);
        CHECK.due("12 empty then", x.read(), -10);
        feedAll(x, "j1p0;x");
        CHECK.due("12 a fault behind", x.read(), -15);
        CHECK.due("12 with a fault nothing is done", x.of(1, 1, 2), 0);
        x.top(0);
        feedAll(x, "a");
        CHECK.due("12 a gate more", x.read(), 1);
        CHECK.due("12 leaves the top by hand", x.told(3), 0);
    }

    private static void refusedClausesArent() {
        CHECK.due("12 odds 101", readNew("p101;p999;p100"), 1);
        CHECK.due("12 s 6", readNew("s6;s5"), 1);
        CHECK.due("12 no gate yet", readNew("j0p0;p1;a;j0p0"), 3);
        CHECK.due("12 later gates", readNew("a;a;j0g1;j1g0;j1g1"), 3);
        CHECK.due("12 a cause of no part", readNew("p1;c5p1;c5p0p9;c5p0;c101p0"), 2);
        CHECK.due("12 seven parts", readNew("p1;p1;p1;p1;p1;p1;p1;a"), 7);
        CHECK.due("12 nine gates", readNew("a;a;a;a;a;a;a;a;a"), 8);
        CHECK.due("12 five inputs", readNew("p1;a;j0p0;j0p0;j0p0;j0p0;j0p0"), 6);
        CHECK.due("12 four causes", readNew("p1;c1p0;c1p0;c1p0;c1p0"), 4);
        CHECK.due("12 none done", readNew("j0p0"), 0);
        CHECK.due("12 odds 0", readNew("p0;c0p0;c000p0"), 3);
    }
}
