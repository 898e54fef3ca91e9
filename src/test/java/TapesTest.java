/** Promises 31 to 38: judging, the image, counts and tapes. */
public final class TapesTest {
    private static final Check CHECK = new Check("TapesTest");
    private static final long NO = Long.MIN_VALUE;
    private static final int LEAST = Integer.MIN_VALUE, MOST = Integer.MAX_VALUE;

    public static void main(String[] args) {
        judge();
        judgeWithoutCuts();
        imageOfPlant();
        imageOfCauses();
        imageOfRows();
        count();
        tape();
        item();
        peek();
        shift();
        shiftRefused();
        CHECK.finish();
    }

    /** The cuts are 4 and 3. */
    private static FaultGraph plant() {
        FaultGraph x = new FaultGraph();
        for (int p = 0; p < 3; p++) {
            x.part(10);
        }
        x.gate(0, 2);
        x.join(0, true, 0);
        x.join(0, true, 1);
        x.gate(1, 3);
        x.join(1, false, 0);
        x.join(1, true, 2);
        return x;
    }

    private static void judge() {
        FaultGraph x = new FaultGraph();
        CHECK.due("31 tape 6", x.judge(6, 0), -1);
        CHECK.due("31 tape -1", x.judge(-1, 0), -1);
        x.tape(0, 3, 2);
        CHECK.due("31 no gates", x.judge(0, 0), -3);
        x = plant();
        for (int sort = 1; sort <= 4; sort++) {
            x.tape(0, sort, 4);
            CHECK.due("31 sort " + sort, x.judge(0, 0), -12);
        }
        x.tape(0, -1, 0);
        CHECK.due("31 holds nothing", x.judge(0, 0), 100);
        x.tape(0, 0, 0);
        CHECK.due("31 an empty row", x.judge(0, 0), 100);
        x.tape(0, 0, 3);
        CHECK.due("31 the first is otherwise", x.judge(0, 1), 0);
        x.item(0, 1, 4);
        CHECK.due("31 the second is otherwise", x.judge(0, 1), 1);
        x.item(0, 2, 3);
        CHECK.due("31 none", x.judge(0, 1), -5);
        CHECK.due("31 from place 0", x.judge(0, 0), 0);
        x.item(0, 2, 4);
        CHECK.due("31 the row ends behind one", x.judge(0, 2), 101);
        CHECK.due("31 at its end", x.judge(0, 3), 100);
        for (int i : new int[] {-1, LEAST, MOST, MOST - 1}) {
            CHECK.due("31 from place " + i, x.judge(0, i), 100);
        }
        x.item(0, 2, 256 + 3);
        CHECK.due("31 the lowest bits", x.judge(0, 1), -5);
    }

    private static void judgeWithoutCuts() {
        FaultGraph x = plant();
        x.turn(1, 2, 5);
        x.tape(1, 3, 1);
        CHECK.due("31 no cuts, nothing there", x.judge(0, 0), -5);
        CHECK.due("31 no cuts, no bytes", x.judge(1, 0), -12);
        CHECK.due("31 no cuts, no tape", x.judge(6, 0), -1);
    }

    private static void imageOfPlant() {
        FaultGraph x = new FaultGraph();
        CHECK.due("33 there is none", x.undo(), -3);
        CHECK.due("32 of nothing", x.image(), 0);
        x.gate(0, 0);
        CHECK.due("33 nothing again", x.undo(), 0);
        CHECK.due("33 no gates", x.told(1), 0);
        x = plant();
        x.cause(5, 5);
        x.move(2, 0);
        CHECK.due("32 two gates", x.image(), 2);
        x.odds(0, 0, 99);
        x.odds(1, 0, 98);
        x.part(1);
        x.move(1, 0);
        x.turn(0, 2, 5);
        x.drop(1);
        x.join(0, true, 3);
        x.gate(0, 0);
        x.cause(6, 6);
        x.top(0);
        CHECK.due("33 two gates", x.undo(), 2);
        int[] told = {3, 2, 1, 1};
        for (int what = 0; what < 4; what++) {
            CHECK.due("33 told(" + what + ")", x.told(what), told[what]);
        }
        CHECK.due("33 odds", x.of(0, 0, 0), 10);
        CHECK.due("33 a cause's odds", x.of(2, 0, 0), 5);
        CHECK.due("33 a cause's bits", x.of(2, 0, 1), 5);
        CHECK.due("33 the order", x.at(0) * 100 + x.at(1) * 10 + x.at(2), 201);
        CHECK.due("33 a gate's kind", x.of(1, 0, 0), 0);
        CHECK.due("33 a gate's k", x.of(1, 0, 1), 2);
        CHECK.due("33 a gate's inputs", x.of(1, 0, 2), 2);
        CHECK.due("33 an input that went", x.of(1, 1, 4), 2);
        x.gate(0, 0);
        CHECK.due("33 the top is the last again", x.told(3), 2);
        x.top(0);
        CHECK.due("32 with a top by hand", x.image(), 3);
        x.top(-1);
        CHECK.due("33 once", x.undo(), 3);
        CHECK.due("33 the top by hand", x.told(3), 0);
        x.gate(0, 0);
        CHECK.due("33 it stays so", x.told(3), 0);
        CHECK.due("33 twice", x.undo(), 3);
    }

    /** What came behind the image goes, and what comes in its stead is not taken for it. */
    private static void imageOfCauses() {
        FaultGraph x = plant();
        x.image();
        x.cause(5, 5);
        x.undo();
        CHECK.due("33 no causes", x.told(2), 0);
        CHECK.due("33 the first again", x.cause(6, 6), 0);
        x.image();
        x.undo();
        CHECK.due("33 its odds", x.of(2, 0, 0), 6);
        CHECK.due("33 its bits", x.of(2, 0, 1), 6);
        x.image();
        x.undo();
        x.undo();
        CHECK.due("33 its bits stay", x.of(2, 0, 1), 6);
    }

    private static void imageOfRows() {
        FaultGraph x = plant();
        x.see(1, true);
        x.event(0, 1);
        x.event(1, 1);
        x.book(4);
        x.book(1);
        x.feed('a');
        x.tape(0, 0, 1);
        x.image();
        x.see(-1, true);
        x.see(1, false);
        x.see(1, false);
        x.event(-1, 0);
        x.book(-1);
        x.book(3);
        x.book(3);
        x.feed('a');
        x.item(0, 0, 7);
        x.undo();
        CHECK.due("33 seen", x.count(0), 1);
        CHECK.due("33 events", x.count(1), 2);
        CHECK.due("33 the book", x.count(2), 2);
        CHECK.due("33 the text isn't in it", x.count(3), 2);
        CHECK.due("33 tapes aren't in it", x.peek(0, 0), 7);
        CHECK.due("33 what is seen", x.fits(1, 0), 1);
        CHECK.due("33 a row of the book", x.looked(), 1);
        CHECK.due("33 what matters most now", x.told(7), 2);
        CHECK.due("33 what happens, in its order", x.after(3), 0);
    }

    private static void count() {
        FaultGraph x = plant();
        x.see(0, true);
        x.event(0, 0);
        x.event(0, 0);
        x.book(0);
        x.book(0);
        x.book(0);
        for (int n = 0; n < 4; n++) {
            x.feed(0);
        }
        for (int what = 0; what < 4; what++) {
            CHECK.due("34 count(" + what + ")", x.count(what), what + 1);
        }
        for (int wrong : new int[] {-1, 4, LEAST, MOST}) {
            CHECK.due("34 count(" + wrong + ")", x.count(wrong), -2);
        }
    }

    private static void tape() {
        FaultGraph x = new FaultGraph();
        CHECK.due("35 tape 6", x.tape(6, 9, 99), -1);
        CHECK.due("35 tape -1", x.tape(-1, 0, 0), -1);
        CHECK.due("35 sort 5", x.tape(0, 5, 1), -2);
        CHECK.due("35 sort -2", x.tape(0, -2, 1), -2);
        CHECK.due("35 sort 5, size below 0", x.tape(0, 5, -1), -2);
        CHECK.due("35 size 61", x.tape(0, 0, 61), -2);
        CHECK.due("35 size most", x.tape(0, 0, MOST), -2);
        CHECK.due("35 size -1", x.tape(0, 0, -1), -14);
        CHECK.due("35 size least", x.tape(0, 4, LEAST), -14);
        CHECK.due("35 refused ones leave it so", x.item(0, 0, 1), -11);
        for (int tape = 0; tape < 6; tape++) {
            CHECK.due("35 size 60", x.tape(tape, tape % 5, 60), 1);
            CHECK.due("35 its end", x.item(tape, 59, 1), 1);
            CHECK.due("35 beyond", x.item(tape, 60, 1), -13);
        }
        CHECK.due("35 anew", x.tape(0, 0, 60), 1);
        CHECK.due("35 all 0", x.peek(0, 59), 0);
        CHECK.due("35 size 0", x.tape(0, 0, 0), 1);
        CHECK.due("35 no places", x.item(0, 0, 1), -13);
        CHECK.due("35 nothing, size most", x.tape(0, -1, MOST), 1);
        CHECK.due("35 nothing, size below 0", x.tape(1, -1, -1), 1);
        CHECK.due("35 nothing there", x.item(0, 0, 1), -11);
        CHECK.due("35 nothing there", x.peek(1, 59), NO);
        CHECK.due("35 others stay", x.peek(2, 59), 1);
    }

    private static void item() {
        FaultGraph x = new FaultGraph();
        CHECK.due("36 tape 6", x.item(6, 0, 0), -1);
        CHECK.due("36 tape -1", x.item(-1, 0, 0), -1);
        CHECK.due("36 nothing", x.item(0, -1, 0), -11);
        long[] values = {0x1234567890ABCDEFL, -1L, 1L << 40, 128L, 32768L, 1L << 31, 0L};
        long[][] due = {
            {(byte) 0xEF, -1, 0, -128, 0, 0, 0},
            {(short) 0xCDEF, -1, 0, 128, -32768, 0, 0},
            {0x90ABCDEF, -1, 0, 128, 32768, LEAST, 0},
            values,
            {1, 1, 1, 1, 1, 1, 0}
        };
        for (int sort = 0; sort < 5; sort++) {
            x.tape(sort, sort, 3);
            for (int n = 0; n < values.length; n++) {
                CHECK.due("36 item", x.item(sort, 1, values[n]), 1);
                CHECK.due("36 sort " + sort + " of " + values[n], x.peek(sort, 1), due[sort][n]);
            }
            CHECK.due("36 place 3", x.item(sort, 3, 0), -13);
            CHECK.due("36 place -1", x.item(sort, -1, 0), -13);
            CHECK.due("36 place most", x.item(sort, MOST, 0), -13);
        }
    }

    private static void peek() {
        FaultGraph x = new FaultGraph();
        CHECK.due("37 tape 6", x.peek(6, 0), NO);
        CHECK.due("37 tape -1", x.peek(-1, 0), NO);
        CHECK.due("37 nothing", x.peek(0, 0), NO);
        x.tape(0, 3, 2);
        x.item(0, 1, 7);
        CHECK.due("37 place 0", x.peek(0, 0), 0);
        CHECK.due("37 place 1", x.peek(0, 1), 7);
        CHECK.due("37 place 2", x.peek(0, 2), NO);
        CHECK.due("37 place -1", x.peek(0, -1), NO);
        CHECK.due("37 place least", x.peek(0, LEAST), NO);
    }

    private static void row(FaultGraph x, String name, int tape, int... due) {
        for (int i = 0; i < due.length; i++) {
            CHECK.due(name + ", item " + i, x.peek(tape, i), due[i]);
        }
    }

    private static void shift() {
        FaultGraph x = new FaultGraph();
        x.tape(0, 2, 5);
        x.tape(1, 2, 3);
        for (int i = 0; i < 5; i++) {
            x.item(0, i, i + 1);
        }
        CHECK.due("38 to another", x.shift(0, 1, 1, 0, 3), 3);
        row(x, "38 to another", 1, 2, 3, 4);
        CHECK.due("38 upwards over itself", x.shift(0, 0, 0, 1, 4), 4);
        row(x, "38 upwards", 0, 1, 1, 2, 3, 4);
        CHECK.due("38 downwards over itself", x.shift(0, 1, 0, 0, 4), 4);
        row(x, "38 downwards", 0, 1, 2, 3, 4, 4);
        CHECK.due("38 none", x.shift(0, 5, 1, 3, 0), 0);
        CHECK.due("38 all", x.shift(1, 0, 0, 2, 3), 3);
        row(x, "38 all", 0, 1, 2, 2, 3, 4);
        for (int sort = 0; sort < 5; sort++) {
            x.tape(2, sort, 2);
            x.tape(3, sort, 2);
            x.item(2, 0, -1);
            CHECK.due("38 sort " + sort, x.shift(2, 0, 3, 1, 1), 1);
            CHECK.due("38 sort " + sort, x.peek(3, 1), sort == 4 ? 1 : -1);
        }
    }

    private static void shiftRefused() {
        FaultGraph x = new FaultGraph();
        x.tape(0, 2, 5);
        x.tape(1, 2, 3);
        x.tape(2, 1, 3);
        x.item(0, 0, 9);
        CHECK.due("38 tape 6", x.shift(6, 0, 0, 0, 0), -1);
        CHECK.due("38 tape -1", x.shift(0, 0, -1, 0, 0), -1);
        CHECK.due("38 nothing, and no tape", x.shift(5, 0, 6, 0, 0), -1);
        CHECK.due("38 from nothing", x.shift(5, 0, 0, 0, 0), -11);
        CHECK.due("38 to nothing", x.shift(0, 0, 5, 0, 0), -11);
        CHECK.due("38 nothing, and no place", x.shift(0, -1, 5, 0, 0), -11);
        CHECK.due("38 unlike sorts", x.shift(0, 0, 2, 0, 1), -12);
        CHECK.due("38 unlike sorts, and no place", x.shift(0, -1, 2, 0, 1), -12);
        CHECK.due("38 n below 0", x.shift(0, 1, 1, 1, -1), -13);
        CHECK.due("38 i below 0", x.shift(0, -1, 1, 0, 1), -13);
        CHECK.due("38 j below 0", x.shift(0, 0, 1, -1, 1), -13);
        CHECK.due("38 beyond the first's end", x.shift(0, 3, 1, 0, 3), -13);
        CHECK.due("38 beyond the other's end", x.shift(0, 0, 1, 1, 3), -13);
        CHECK.due("38 none, beyond the first's end", x.shift(0, 6, 1, 0, 0), -13);
        CHECK.due("38 none, beyond the other's end", x.shift(0, 0, 1, 4, 0), -13);
        CHECK.due("38 n most", x.shift(0, 1, 1, 1, MOST), -13);
        CHECK.due("38 i most", x.shift(0, MOST, 1, 0, 1), -13);
        CHECK.due("38 j most", x.shift(0, 0, 1, MOST, MOST), -13);
        CHECK.due("38 n least", x.shift(0, 0, 1, 0, LEAST), -13);
        row(x, "38 refused ones leave it so", 1, 0, 0, 0);
    }
}
