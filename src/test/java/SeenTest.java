/** Promises 24 to 30: what is seen, fits, means, events, books. */
public final class SeenTest {
    private static final Check CHECK = new Check("SeenTest");
    private static final long NO = Long.MIN_VALUE;

    public static void main(String[] args) {
        see();
        fits();
        mean();
        event();
        after();
        book();
        looked();
        CHECK.finish();
    }

    private static FaultGraph threeParts() {
        FaultGraph x = new FaultGraph();
        for (int p = 0; p < 3; p++) {
            x.part(10);
        }
        return x;
    }

    /** Top is ANY of part 2 and of SOME 2 of all three. */
    private static FaultGraph twoGates() {
        FaultGraph x = threeParts();
        x.gate(2, 2);
        x.gate(1, 3);
        for (int p = 0; p < 3; p++) {
            x.join(0, true, p);
        }
        x.join(1, false, 0);
        x.join(1, true, 2);
        return x;
    }

    private static void see() {
        FaultGraph x = threeParts();
        CHECK.due("24 bits 8", x.see(8, true), -2);
        CHECK.due("24 bits -2", x.see(-2, true), -2);
        for (int n = 1; n <= 6; n++) {
            CHECK.due("24 row " + n, x.see(7, n % 2 == 0), n);
        }
        CHECK.due("24 a seventh", x.see(0, true), -4);
        CHECK.due("24 a bad seventh", x.see(8, true), -2);
        CHECK.due("24 how many", x.count(0), 6);
        CHECK.due("24 none then", x.see(-1, true), 0);
        CHECK.due("24 none", x.count(0), 0);
        CHECK.due("24 there is room again", x.see(0, false), 1);
    }

    private static void fits(FaultGraph x, int gate, int many, int least) {
        CHECK.due("25 how many fit gate " + gate, x.fits(gate, 0), many);
        CHECK.due("25 the least of gate " + gate, x.fits(gate, 1), least);
    }

    private static void fits() {
        FaultGraph x = new FaultGraph();
        CHECK.due("25 no gates", x.fits(-1, 0), -1);
        x = twoGates();
        CHECK.due("25 gate -1", x.fits(-1, 0), -1);
        CHECK.due("25 gate 2", x.fits(2, 0), -1);
        CHECK.due("25 what 2", x.fits(0, 2), -1);
        CHECK.due("25 what -1", x.fits(0, -1), -1);
        fits(x, 0, 6, 0);
        x.see(0, false);
        fits(x, 0, 5, 1);
        x.see(1, false);
        fits(x, 0, 4, 2);
        x.see(3, true);
        fits(x, 0, 1, 2);
        fits(x, 1, 1, 1);
        x.see(4, false);
        fits(x, 0, 0, -5);
        x.see(-1, false);
        x.see(7, false);
        fits(x, 1, 3, 3);
        fits(x, 0, 0, -5);
        CHECK.due("25 the gate stays ANY", x.of(1, 1, 0), 1);
        CHECK.due("25 the gate stays 3", x.of(1, 1, 1), 3);
        x.top(0);
        fits(x, 1, 0, -5);
        fits(x, 0, 2, 4);
    }

    private static void mean() {
        FaultGraph x = threeParts();
        CHECK.due("26 no gates", x.mean(0), NO);
        x = twoGates();
        CHECK.due("26 cuts 4, 3: above", x.mean(0), 3);
        CHECK.due("26 cuts 4, 3: below", x.mean(1), 2);
        CHECK.due("26 line 2", x.mean(2), NO);
        CHECK.due("26 line -1", x.mean(-1), NO);
        x.top(0);
        CHECK.due("26 three pairs: above", x.mean(0), 2);
        CHECK.due("26 three pairs: below", x.mean(1), 1);
        x.turn(0, 2, 0);
        CHECK.due("26 EVER: above", x.mean(0), 0);
        CHECK.due("26 EVER: below", x.mean(1), 1);
        x.turn(0, 2, 4);
        CHECK.due("26 NEVER: above", x.mean(0), NO);
        CHECK.due("26 NEVER: below", x.mean(1), NO);
    }

    private static void event() {
        FaultGraph x = threeParts();
        x.gate(0, 0);
        CHECK.due("27 what 4", x.event(4, 0), -1);
        CHECK.due("27 what -2", x.event(-2, 0), -1);
        CHECK.due("27 part 3", x.event(0, 3), -1);
        CHECK.due("27 part 3", x.event(1, 3), -1);
        CHECK.due("27 part -1", x.event(1, -1), -1);
        CHECK.due("27 gate 1", x.event(2, 1), -1);
        CHECK.due("27 gate -1", x.event(3, -1), -1);
        for (int n = 1; n <= 8; n++) {
            CHECK.due("27 row " + n, x.event(n % 4, 0), n);
        }
        CHECK.due("27 a ninth", x.event(0, 0), -4);
        CHECK.due("27 a ninth of none", x.event(0, 3), -1);
        CHECK.due("27 how many", x.count(1), 8);
        CHECK.due("27 none then", x.event(-1, 99), 0);
        CHECK.due("27 none", x.count(1), 0);
    }

    private static void after(FaultGraph x, String name, int cuts, int nodes, int isDown, int most) {
        CHECK.due("28 " + name + ": cuts", x.after(0), cuts);
        CHECK.due("28 " + name + ": nodes", x.after(1), nodes);
        CHECK.due("28 " + name + ": fails", x.after(2), isDown);
        CHECK.due("28 " + name + ": most", x.after(3), most);
    }

    private static void after() {
        FaultGraph x = new FaultGraph();
        CHECK.due("28 what 4", x.after(4), -1);
        CHECK.due("28 what -1", x.after(-1), -1);
        CHECK.due("28 no gates", x.after(0), -3);
        x.gate(0, 0);
        after(x, "no parts", 1, 0, 1, -5);
        x = twoGates();
        after(x, "no events", 2, 3, 0, 2);
        x.event(1, 0);
        after(x, "part 0 is sure to fail, so parts 1 and 2 matter alike", 2, 3, 0, 1);
        x.event(0, 2);
        after(x, "part 2 never fails", 2, 3, 0, 1);
        x.event(2, 1);
        after(x, "top is ALL", 2, 3, 0, 2);
        x.event(3, 0);
        after(x, "gate 0 is ANY", 1, 1, 0, 2);
        x.event(3, 1);
        after(x, "top is ANY again, and part 0 still sure to fail", 3, 3, 0, 0);
        x.event(0, 0);
        after(x, "the last event of a part holds", 3, 3, 0, 1);
        CHECK.due("28 odds stay", x.of(0, 0, 0), 10);
        CHECK.due("28 kinds stay", x.of(1, 0, 0), 2);
        CHECK.due("28 the top now", x.told(5), 2);
        x.top(0);
        x.drop(0);
        x.drop(0);
        x.drop(0);
        x.event(-1, 0);
        x.event(2, 0);
        after(x, "ALL of none", 1, 0, 1, 0);
    }

    private static void book() {
        FaultGraph x = threeParts();
        CHECK.due("29 bits 8", x.book(8), -2);
        CHECK.due("29 bits -2", x.book(-2), -2);
        for (int n = 1; n <= 8; n++) {
            CHECK.due("29 row " + n, x.book(n - 1), n);
        }
        CHECK.due("29 a ninth", x.book(0), -4);
        CHECK.due("29 a bad ninth", x.book(8), -2);
        CHECK.due("29 how many", x.count(2), 8);
        CHECK.due("29 empty then", x.book(-1), 0);
        CHECK.due("29 empty", x.count(2), 0);
    }

    private static void looked() {
        FaultGraph x = threeParts();
        x.book(3);
        CHECK.due("30 no gates", x.looked(), -3);
        x = twoGates();
        CHECK.due("30 an empty book", x.looked(), -5);
        x.book(3);
        x.book(4);
        x.book(3);
        CHECK.due("30 all are cuts", x.looked(), -5);
        x.book(7);
        x.book(5);
        CHECK.due("30 the first that isn't", x.looked(), 3);
        x.turn(1, 0, 0);
        CHECK.due("30 the cuts are others now", x.looked(), 0);
        x.book(-1);
        x.book(5);
        x.book(6);
        CHECK.due("30 all are cuts", x.looked(), -5);
    }
}
