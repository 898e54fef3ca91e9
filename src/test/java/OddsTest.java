/** Promises 21 to 23: chances, what is given, weights, and which part matters most. */
public final class OddsTest {
    private static final Check CHECK = new Check("OddsTest");
    private static final long NO = Long.MIN_VALUE;

    public static void main(String[] args) {
        refusals();
        chance();
        given();
        weight();
        most();
        greatest();
        CHECK.finish();
    }

    private static void refusals() {
        FaultGraph x = new FaultGraph();
        x.part(50);
        x.cause(50, 1);
        CHECK.due("21 no gates", x.chance(0), NO);
        CHECK.due("22 no gates", x.given(0, true, 0), NO);
        CHECK.due("23 no gates", x.weight(0, 0), NO);
        x.gate(0, 0);
        for (int wrong : new int[] {-1, 2, Integer.MIN_VALUE, Integer.MAX_VALUE}) {
            CHECK.due("21 part " + wrong, x.chance(wrong), NO);
            CHECK.due("22 part " + wrong, x.given(0, true, wrong), NO);
            CHECK.due("22 cause " + wrong, x.given(wrong, true, 0), NO);
            CHECK.due("23 line " + wrong, x.weight(0, wrong), NO);
            CHECK.due("23 part " + wrong, x.weight(wrong, 0), NO);
        }
        CHECK.due("22 cause 1", x.given(1, true, 0), NO);
        CHECK.due("23 part 1", x.weight(1, 0), NO);
    }

    private static void fraction(String name, long above, long below, long dueAbove, long dueBelow) {
        CHECK.due(name + " above", above, dueAbove);
        CHECK.due(name + " below", below, dueBelow);
    }

    private static void chance() {
        FaultGraph x = new FaultGraph();
        x.gate(0, 0);
        fraction("21 EVER", x.chance(0), x.chance(1), 1, 1);
        x.turn(0, 1, 0);
        fraction("21 NEVER", x.chance(0), x.chance(1), 0, 1);
        x.part(25);
        x.part(40);
        x.join(0, true, 0);
        fraction("21 one part", x.chance(0), x.chance(1), 1, 4);
        x.join(0, true, 1);
        fraction("21 either", x.chance(0), x.chance(1), 11, 20);
        x.turn(0, 0, 0);
        fraction("21 both", x.chance(0), x.chance(1), 1, 10);
        x.cause(50, 3);
        fraction("21 a cause of both", x.chance(0), x.chance(1), 11, 20);
        x.odds(0, 0, 0);
        fraction("21 by the cause alone", x.chance(0), x.chance(1), 1, 2);
        x.odds(1, 0, 100);
        fraction("21 a cause that is sure", x.chance(0), x.chance(1), 1, 1);
    }

    private static void given() {
        FaultGraph x = new FaultGraph();
        x.part(25);
        x.part(40);
        x.gate(0, 0);
        x.join(0, true, 0);
        x.join(0, true, 1);
        x.cause(0, 1);
        x.cause(10, 2);
        fraction("22 it happens, which it never does", x.given(0, true, 0), x.given(0, true, 1), 23, 50);
        fraction("22 it doesn't", x.given(0, false, 0), x.given(0, false, 1), 23, 200);
        fraction("22 the other", x.given(1, true, 0), x.given(1, true, 1), 1, 4);
        fraction("22 the other not", x.given(1, false, 0), x.given(1, false, 1), 1, 10);
        x.odds(1, 0, 100);
        fraction("22 it doesn't, which it always does", x.given(0, false, 0), x.given(0, false, 1), 23, 200);
        CHECK.due("22 odds stay", x.of(2, 0, 0), 100);
    }

    private static void weight() {
        FaultGraph x = new FaultGraph();
        x.part(25);
        x.part(40);
        x.part(50);
        x.gate(0, 0);
        x.join(0, true, 0);
        x.join(0, true, 1);
        fraction("23 part 0", x.weight(0, 0), x.weight(0, 1), 2, 5);
        fraction("23 part 1", x.weight(1, 0), x.weight(1, 1), 1, 4);
        fraction("23 part 2 does not matter", x.weight(2, 0), x.weight(2, 1), 0, 1);
        x.cause(50, 1);
        fraction("23 a cause breaks it all the same", x.weight(0, 0), x.weight(0, 1), 1, 5);
        fraction("23 a cause breaks the other", x.weight(1, 0), x.weight(1, 1), 5, 8);
        CHECK.due("23 odds stay", x.of(0, 0, 0), 25);
    }

    private static void most() {
        FaultGraph x = new FaultGraph();
        x.gate(0, 0);
        CHECK.due("18 no parts", x.told(7), -5);
        for (int p = 0; p < 3; p++) {
            x.part(50);
        }
        CHECK.due("18 none matters: the least", x.told(7), 0);
        x.join(0, true, 1);
        x.join(0, true, 2);
        CHECK.due("18 of two the least", x.told(7), 1);
        x.odds(0, 1, 51);
        CHECK.due("18 part 2 matters more", x.told(7), 2);
        x.odds(0, 1, 49);
        CHECK.due("18 part 1 matters more", x.told(7), 1);
        x.odds(0, 1, 48);
        x.cause(1, 2);
        CHECK.due("18 with a cause, 4950 against 4852", x.told(7), 1);
        x.odds(1, 0, 2);
        CHECK.due("18 with a cause, 4900 against 4904", x.told(7), 2);
    }

    /** All nine sources, so that what stands below the line is 100 to the ninth. */
    private static void greatest() {
        FaultGraph x = new FaultGraph();
        for (int p = 0; p < 6; p++) {
            x.part(99);
        }
        x.gate(0, 0);
        x.gate(0, 0);
        for (int p = 0; p < 3; p++) {
            x.join(0, true, p);
            x.join(1, true, 3 + p);
        }
        x.join(1, false, 0);
        for (int c = 0; c < 3; c++) {
            x.cause(1, 0);
        }
        fraction("21 all of six", x.chance(0), x.chance(1), 941480149401L, 1000000000000L);
        for (int c = 0; c < 3; c++) {
            x.drop(1);
        }
        x.turn(1, 1, 0);
        x.turn(0, 1, 0);
        x.join(1, false, 0);
        x.join(1, true, 4);
        x.join(1, true, 5);
        fraction("21 any of six", x.chance(0), x.chance(1), 999999999999L, 1000000000000L);
        FaultGraph y = new FaultGraph();
        for (int p = 0; p < 6; p++) {
            y.part(1);
        }
        y.gate(0, 0);
        y.gate(0, 0);
        for (int p = 0; p < 3; p++) {
            y.join(0, true, p);
            y.join(1, true, 3 + p);
        }
        y.join(1, false, 0);
        y.cause(1, 3);
        y.cause(1, 12);
        y.cause(1, 48);
        // each pair fails by itself or by its cause: (1 + 99 / 10000) / 100 of each
        fraction("21 three pairs", y.chance(0), y.chance(1), 10099L * 10099L * 10099L, 1000000000000000000L);
        fraction("22 a pair is down", y.given(0, true, 0), y.given(0, true, 1), 10099L * 10099L, 1000000000000L);
        fraction("23 of one of a pair", y.weight(0, 0), y.weight(0, 1), 99L * 10099L * 10099L, 10000000000000000L);
    }
}
