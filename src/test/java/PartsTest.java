/** Promises 1 to 10: a new object, parts, gates, causes and what is told of them. */
public final class PartsTest {
    private static final Check CHECK = new Check("PartsTest");
    private static final int LEAST = Integer.MIN_VALUE, MOST = Integer.MAX_VALUE;

    public static void main(String[] args) {
        aNewObject();
        part();
        gate();
        turn();
        join();
        drop();
        top();
        cause();
        odds();
        of();
        CHECK.finish();
    }

    private static void aNewObject() {
        FaultGraph x = new FaultGraph();
        CHECK.due("1 parts", x.told(0), 0);
        CHECK.due("1 gates", x.told(1), 0);
        CHECK.due("1 causes", x.told(2), 0);
        CHECK.due("1 top", x.told(3), -5);
        CHECK.due("1 at(0)", x.at(0), -1);
        for (int what = 0; what < 4; what++) {
            CHECK.due("1 count(" + what + ")", x.count(what), 0);
        }
        for (int tape = 0; tape < 6; tape++) {
            CHECK.due("1 item of tape " + tape, x.item(tape, 0, 0), -11);
        }
        CHECK.due("1 no image", x.undo(), -3);
    }

    private static void part() {
        FaultGraph x = new FaultGraph();
        for (int wrong : new int[] {-1, 101, LEAST, MOST}) {
            CHECK.due("2 part(" + wrong + ")", x.part(wrong), -2);
        }
        CHECK.due("2 refused parts don't come", x.told(0), 0);
        int[] odds = {0, 100, 1, 99, 50, 7};
        for (int p = 0; p < 6; p++) {
            CHECK.due("2 part", x.part(odds[p]), p);
            CHECK.due("2 it stands last", x.at(p), p);
        }
        CHECK.due("2 a seventh", x.part(50), -4);
        CHECK.due("2 a seventh of bad odds", x.part(101), -2);
        CHECK.due("2 parts", x.told(0), 6);
        for (int p = 0; p < 6; p++) {
            CHECK.due("2 its odds", x.of(0, p, 0), odds[p]);
        }
    }

    private static void gate() {
        FaultGraph x = new FaultGraph();
        CHECK.due("3 kind -1", x.gate(-1, 0), -2);
        CHECK.due("3 kind 3", x.gate(3, 0), -2);
        CHECK.due("3 k -1", x.gate(2, -1), -2);
        CHECK.due("3 k 6", x.gate(2, 6), -2);
        CHECK.due("3 k 6 of ALL", x.gate(0, 6), -2);
        CHECK.due("3 extremes", x.gate(MOST, LEAST), -2);
        for (int g = 0; g < 8; g++) {
            CHECK.due("3 gate", x.gate(g % 3, g % 6), g);
            CHECK.due("3 no inputs", x.of(1, g, 2), 0);
        }
        CHECK.due("3 a ninth", x.gate(0, 0), -4);
        CHECK.due("3 a bad ninth", x.gate(3, 0), -2);
        CHECK.due("3 gates", x.told(1), 8);
        CHECK.due("3 k is told of ALL", x.of(1, 3, 1), 3);
        CHECK.due("3 k is told of ANY", x.of(1, 4, 1), 4);
    }

    private static void turn() {
        FaultGraph x = new FaultGraph();
        CHECK.due("4 no gate", x.turn(0, 9, 9), -1);
        x.gate(2, 5);
        CHECK.due("4 gate -1", x.turn(-1, 0, 0), -1);
        CHECK.due("4 gate 1", x.turn(1, 0, 0), -1);
        CHECK.due("4 kind", x.turn(0, 3, 0), -2);
        CHECK.due("4 kind below", x.turn(0, -1, 0), -2);
        CHECK.due("4 k", x.turn(0, 1, 6), -2);
        CHECK.due("4 k below", x.turn(0, 1, -1), -2);
        CHECK.due("4 was SOME 5", x.turn(0, 1, 3), 25);
        CHECK.due("4 was ANY 3", x.turn(0, 0, 2), 13);
        CHECK.due("4 was ALL 2", x.turn(0, 2, 0), 2);
        CHECK.due("4 is SOME", x.of(1, 0, 0), 2);
        CHECK.due("4 is SOME 0", x.of(1, 0, 1), 0);
        CHECK.due("4 SOME 0 fails always", x.fails(0, 0), 1);
    }

    private static void join() {
        FaultGraph x = new FaultGraph();
        x.part(1);
        x.part(2);
        CHECK.due("5 no gate", x.join(0, true, 0), -1);
        x.gate(0, 0);
        x.gate(1, 0);
        x.gate(2, 2);
        CHECK.due("5 part -1", x.join(1, true, -1), -1);
        CHECK.due("5 part 2", x.join(1, true, 2), -1);
        CHECK.due("5 gate 3", x.join(1, false, 3), -1);
        CHECK.due("5 gate -1", x.join(1, false, -1), -1);
        CHECK.due("5 itself", x.join(1, false, 1), -3);
        CHECK.due("5 a later one", x.join(1, false, 2), -3);
        CHECK.due("5 of gate -1", x.join(-1, true, 0), -1);
        CHECK.due("5 of gate 3", x.join(3, true, 0), -1);
        CHECK.due("5 a gate of less number", x.join(1, false, 0), 1);
        CHECK.due("5 it twice", x.join(1, false, 0), 2);
        CHECK.due("5 a part", x.join(1, true, 1), 3);
        CHECK.due("5 it twice", x.join(1, true, 1), 4);
        CHECK.due("5 a fifth", x.join(1, true, 0), -4);
        CHECK.due("5 a fifth that isn't", x.join(1, true, 2), -1);
        CHECK.due("5 a fifth that is later", x.join(1, false, 2), -3);
        CHECK.due("5 how many", x.of(1, 1, 2), 4);
        x.join(2, true, 0);
        x.join(2, true, 0);
        CHECK.due("5 twice counts twice", x.fails(2, 1), 1);
    }

    private static void drop() {
        FaultGraph x = new FaultGraph();
        x.part(1);
        x.part(1);
        CHECK.due("6 no gate", x.drop(0), -1);
        x.gate(1, 0);
        CHECK.due("6 without inputs", x.drop(0), -3);
        CHECK.due("6 gate -1", x.drop(-1), -1);
        x.join(0, true, 0);
        x.join(0, true, 1);
        CHECK.due("6 the last goes", x.drop(0), 1);
        CHECK.due("6 the first stays", x.of(1, 0, 3), 0);
        CHECK.due("6 the last is gone", x.of(1, 0, 4), -1);
        CHECK.due("6 it fails no more", x.fails(0, 2), 0);
        CHECK.due("6 all gone", x.drop(0), 0);
        CHECK.due("6 none left", x.drop(0), -3);
        CHECK.due("6 one may come again", x.join(0, true, 1), 1);
    }

    private static void top() {
        FaultGraph x = new FaultGraph();
        CHECK.due("7 no gates", x.top(-1), -5);
        CHECK.due("7 no such gate", x.top(0), -1);
        x.gate(0, 0);
        x.gate(0, 0);
        CHECK.due("7 the last is top", x.told(3), 1);
        CHECK.due("7 gate 2", x.top(2), -1);
        CHECK.due("7 gate -2", x.top(-2), -1);
        CHECK.due("7 by hand", x.top(1), 1);
        x.gate(0, 0);
        CHECK.due("7 one that comes leaves it so", x.told(3), 1);
        CHECK.due("7 another by hand", x.top(0), 1);
        CHECK.due("7 the last one again", x.top(-1), 0);
        CHECK.due("7 it is", x.told(3), 2);
        x.gate(0, 0);
        CHECK.due("7 also when more come", x.told(3), 3);
    }

    private static void cause() {
        FaultGraph x = new FaultGraph();
        CHECK.due("8 no parts", x.cause(5, 1), -2);
        CHECK.due("8 an empty set", x.cause(5, 0), 0);
        x.part(1);
        x.part(1);
        CHECK.due("8 odds 101", x.cause(101, 0), -2);
        CHECK.due("8 odds -1", x.cause(-1, 0), -2);
        CHECK.due("8 bits below 0", x.cause(5, -1), -2);
        CHECK.due("8 bits 4", x.cause(5, 4), -2);
        CHECK.due("8 extremes", x.cause(5, MOST), -2);
        CHECK.due("8 bits 3", x.cause(0, 3), 1);
        CHECK.due("8 odds 100", x.cause(100, 2), 2);
        CHECK.due("8 a fourth", x.cause(100, 2), -4);
        CHECK.due("8 a bad fourth", x.cause(100, 4), -2);
        CHECK.due("8 causes", x.told(2), 3);
    }

    private static void odds() {
        FaultGraph x = new FaultGraph();
        x.part(10);
        x.part(20);
        x.cause(30, 1);
        CHECK.due("9 side 2", x.odds(2, 0, 0), -1);
        CHECK.due("9 side -1", x.odds(-1, 0, 0), -1);
        CHECK.due("9 part 2", x.odds(0, 2, 101), -1);
        CHECK.due("9 part -1", x.odds(0, -1, 0), -1);
        CHECK.due("9 cause 1", x.odds(1, 1, 0), -1);
        CHECK.due("9 odds -1", x.odds(0, 0, -1), -2);
        CHECK.due("9 odds 101", x.odds(1, 0, 101), -2);
        CHECK.due("9 a part's", x.odds(0, 1, 100), 20);
        CHECK.due("9 again", x.odds(0, 1, 0), 100);
        CHECK.due("9 a cause's", x.odds(1, 0, 0), 30);
        CHECK.due("9 they are", x.of(0, 1, 0), 0);
        CHECK.due("9 they are", x.of(2, 0, 0), 0);
        CHECK.due("9 the other's stay", x.of(0, 0, 0), 10);
    }

    private static void of() {
        FaultGraph x = new FaultGraph();
        for (int side = 0; side < 3; side++) {
            CHECK.due("10 nothing there", x.of(side, 0, 0), -1);
        }
        x.part(10);
        x.part(20);
        x.cause(30, 3);
        x.gate(2, 4);
        x.gate(1, 5);
        x.join(1, true, 1);
        x.join(1, false, 0);
        x.join(1, true, 0);
        x.join(1, false, 0);
        x.move(1, 0);
        int[] ofGate = {1, 5, 4, 1, 10, 0, 10, -1};
        for (int what = 0; what < 8; what++) {
            CHECK.due("10 gate 1, " + what, x.of(1, 1, what), ofGate[what]);
        }
        CHECK.due("10 input that isn't", x.of(1, 0, 3), -1);
        CHECK.due("10 odds", x.of(0, 1, 0), 20);
        CHECK.due("10 place", x.of(0, 1, 1), 0);
        CHECK.due("10 place", x.of(0, 0, 1), 1);
        CHECK.due("10 cause's odds", x.of(2, 0, 0), 30);
        CHECK.due("10 cause's bits", x.of(2, 0, 1), 3);
        CHECK.due("10 no such side", x.of(3, 0, 0), -1);
        CHECK.due("10 no such side", x.of(-1, 0, 0), -1);
        for (int side = 0; side < 3; side++) {
            CHECK.due("10 no such what", x.of(side, 0, -1), -1);
            CHECK.due("10 no such what", x.of(side, 0, MOST), -1);
            CHECK.due("10 no such number", x.of(side, 2, 0), -1);
            CHECK.due("10 no such number", x.of(side, LEAST, 0), -1);
        }
        CHECK.due("10 part, 2", x.of(0, 0, 2), -1);
        CHECK.due("10 cause, 2", x.of(2, 0, 2), -1);
    }
}
