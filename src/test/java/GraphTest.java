/** Promises 13 to 20: what fails, the order, the graph, cuts and paths. */
public final class GraphTest {
    private static final Check CHECK = new Check("GraphTest");

    public static void main(String[] args) {
        fails();
        move();
        sift();
        node();
        told();
        cutsAndPaths();
        mostCuts();
        CHECK.finish();
    }

    /** p0 p1 or p2 p3 or p4 p5: an order of pairs needs few nodes, another one many. */
    private static FaultGraph pairs() {
        FaultGraph x = new FaultGraph();
        for (int p = 0; p < 6; p++) {
            x.part(10);
        }
        for (int g = 0; g < 3; g++) {
            x.gate(0, 0);
            x.join(g, true, 2 * g);
            x.join(g, true, 2 * g + 1);
        }
        x.gate(1, 0);
        for (int g = 0; g < 3; g++) {
            x.join(3, false, g);
        }
        return x;
    }

    private static void fails() {
        FaultGraph x = new FaultGraph();
        CHECK.due("13 no gates", x.fails(-1, -1), -1);
        for (int p = 0; p < 4; p++) {
            x.part(1);
        }
        x.gate(0, 1);
        x.gate(1, 4);
        for (int g = 0; g < 2; g++) {
            CHECK.due("13 no inputs", x.fails(g, 15), g == 0 ? 1 : 0);
            for (int p = 0; p < 4; p++) {
                x.join(g, true, p);
            }
        }
        for (int k = 0; k < 6; k++) {
            x.gate(2, k);
            for (int p = 0; p < 4; p++) {
                x.join(2 + k, true, p);
            }
        }
        for (int bits = 0; bits < 16; bits++) {
            CHECK.due("13 ALL " + bits, x.fails(0, bits), bits == 15 ? 1 : 0);
            CHECK.due("13 ANY " + bits, x.fails(1, bits), bits > 0 ? 1 : 0);
            for (int k = 0; k < 6; k++) {
                CHECK.due("13 SOME " + k + " of " + bits, x.fails(2 + k, bits), Integer.bitCount(bits) >= k ? 1 : 0);
            }
        }
        CHECK.due("13 top is SOME 5", x.fails(-1, 15), 0);
        x.top(1);
        CHECK.due("13 top is ANY", x.fails(-1, 8), 1);
        CHECK.due("13 no gate 8", x.fails(8, 0), -1);
        CHECK.due("13 no gate -2", x.fails(-2, 99), -1);
        CHECK.due("13 bits 16", x.fails(0, 16), -2);
        CHECK.due("13 bits -1", x.fails(0, -1), -2);
        CHECK.due("13 bits least", x.fails(0, Integer.MIN_VALUE), -2);
    }

    private static void order(FaultGraph x, String name, int... parts) {
        for (int place = 0; place < parts.length; place++) {
            CHECK.due(name + ": at(" + place + ")", x.at(place), parts[place]);
            CHECK.due(name + ": place of " + parts[place], x.of(0, parts[place], 1), place);
        }
    }

    private static void move() {
        FaultGraph x = new FaultGraph();
        CHECK.due("14 no part", x.move(0, 0), -1);
        for (int p = 0; p < 5; p++) {
            x.part(1);
        }
        CHECK.due("14 place 5", x.move(0, 5), -2);
        CHECK.due("14 place -1", x.move(0, -1), -2);
        CHECK.due("14 part 5", x.move(5, 9), -1);
        CHECK.due("14 part -1", x.move(-1, 0), -1);
        order(x, "14 as they came", 0, 1, 2, 3, 4);
        CHECK.due("14 to the front", x.move(3, 0), 3);
        order(x, "14 front", 3, 0, 1, 2, 4);
        CHECK.due("14 to the end", x.move(0, 4), 1);
        order(x, "14 end", 3, 1, 2, 4, 0);
        CHECK.due("14 to its own place", x.move(2, 2), 2);
        order(x, "14 own", 3, 1, 2, 4, 0);
        CHECK.due("14 back by one", x.move(4, 2), 3);
        order(x, "14 one", 3, 1, 4, 2, 0);
        x.part(1);
        order(x, "14 one that comes stands last", 3, 1, 4, 2, 0, 5);
        CHECK.due("16 place 6", x.at(6), -1);
        CHECK.due("16 place -1", x.at(-1), -1);
        CHECK.due("16 place most", x.at(Integer.MAX_VALUE), -1);
    }

    private static void sift() {
        FaultGraph x = new FaultGraph();
        CHECK.due("15 no part", x.sift(0), -1);
        x.part(1);
        CHECK.due("15 no gates", x.sift(0), -3);
        CHECK.due("15 no such part", x.sift(1), -1);
        CHECK.due("15 no such part", x.sift(-1), -1);
        x = pairs();
        CHECK.due("15 pairs need 6", x.told(4), 6);
        x.move(1, 5);
        x.move(2, 1);
        x.move(4, 2);
        order(x, "15 apart", 0, 2, 4, 3, 5, 1);
        CHECK.due("15 apart they need 14", x.told(4), 14);
        CHECK.due("15 sift 1", x.sift(1), 0);
        order(x, "15 the least place of several", 1, 0, 2, 4, 3, 5);
        CHECK.due("15 nodes", x.told(4), 8);
        CHECK.due("15 sift 4", x.sift(4), 4);
        order(x, "15 paired", 1, 0, 2, 3, 4, 5);
        CHECK.due("15 nodes", x.told(4), 6);
        x = pairs();
        x.turn(3, 2, 0);
        CHECK.due("15 all places are alike", x.sift(5), 0);
        order(x, "15 so the least", 5, 0, 1, 2, 3, 4);
    }

    private static void node() {
        FaultGraph x = new FaultGraph();
        CHECK.due("17 no gates", x.node(0, 9), -3);
        x = pairs();
        x.move(1, 2);
        int[][] nodes = {
            {0, 1, 5}, {2, 2, 4}, {4, -6, 3}, {5, -6, -7}, {3, 2, -7}, {2, 6, 7}, {1, 2, -7}, {1, 4, -7}
        };
        CHECK.due("17 how many", x.told(4), nodes.length);
        for (int n = 0; n < nodes.length; n++) {
            for (int what = 0; what < 3; what++) {
                CHECK.due("17 node " + n + ", " + what, x.node(n, what), nodes[n][what]);
            }
        }
        CHECK.due("17 node 8", x.node(8, 0), -1);
        CHECK.due("17 node -1", x.node(-1, 0), -1);
        CHECK.due("17 what 3", x.node(0, 3), -1);
        CHECK.due("17 what -1", x.node(0, -1), -1);
        x.turn(3, 2, 4);
        CHECK.due("17 NEVER has none", x.node(0, 0), -1);
        CHECK.due("17 NEVER has none", x.told(4), 0);
    }

    private static void told() {
        FaultGraph x = new FaultGraph();
        CHECK.due("18 what 9", x.told(9), -1);
        CHECK.due("18 what -1", x.told(-1), -1);
        for (int what = 4; what < 9; what++) {
            CHECK.due("18 no gates", x.told(what), -3);
        }
        x.gate(1, 0);
        int[] never = {0, 1, 0, 0, 0, 0, 1, -5, -1};
        for (int what = 0; what < 9; what++) {
            CHECK.due("18 ANY of none, " + what, x.told(what), never[what]);
        }
        x.part(0);
        x.part(0);
        x.turn(0, 0, 0);
        int[] ever = {2, 1, 0, 0, 0, 1, 0, 0, 1};
        for (int what = 0; what < 9; what++) {
            CHECK.due("18 ALL of none, " + what, x.told(what), ever[what]);
        }
        x.join(0, true, 1);
        x.cause(1, 1);
        int[] one = {2, 1, 1, 0, 1, 1, 1, 1, 0};
        for (int what = 0; what < 9; what++) {
            CHECK.due("18 ALL of one, " + what, x.told(what), one[what]);
        }
    }

    private static void cutsAndPaths() {
        FaultGraph x = new FaultGraph();
        CHECK.due("19 no gates", x.cut(0), -3);
        CHECK.due("20 no gates", x.path(-1), -3);
        x = pairs();
        int[] cuts = {3, 12, 48, -1};
        int[] paths = {21, 22, 25, 26, 37, 38, 41, 42, -1};
        for (int k = 0; k < cuts.length; k++) {
            CHECK.due("19 cut " + k, x.cut(k), cuts[k]);
        }
        for (int k = 0; k < paths.length; k++) {
            CHECK.due("20 path " + k, x.path(k), paths[k]);
        }
        CHECK.due("19 below", x.cut(-1), -1);
        CHECK.due("20 below", x.path(-1), -1);
        CHECK.due("19 most", x.cut(Integer.MAX_VALUE), -1);
        x.join(3, true, 5);
        CHECK.due("19 fewest parts first", x.cut(0), 32);
        CHECK.due("19 then by bits", x.cut(1), 3);
        CHECK.due("19 then by bits", x.cut(2), 12);
        CHECK.due("19 48 is no more", x.cut(3), -1);
        CHECK.due("20 all have part 5", x.path(0), 37);
    }

    private static void mostCuts() {
        FaultGraph x = new FaultGraph();
        for (int p = 0; p < 6; p++) {
            x.part(50);
        }
        // ANY, SOME 2 and ALL of the first three parts, then of the last three
        x.gate(1, 0);
        x.gate(2, 2);
        x.gate(0, 0);
        x.gate(1, 0);
        x.gate(2, 2);
        x.gate(0, 0);
        for (int g = 0; g < 6; g++) {
            for (int p = 0; p < 3; p++) {
                x.join(g, true, g / 3 * 3 + p);
            }
        }
        x.gate(0, 0);
        x.join(6, false, 0);
        x.join(6, false, 4);
        x.gate(1, 0);
        x.join(7, false, 2);
        x.join(7, false, 5);
        x.join(7, false, 6);
        CHECK.due("19 nine of one and two, and two of three", x.told(5), 11);
        x.drop(7);
        x.turn(6, 1, 0);
        x.join(7, false, 6);
        CHECK.due("19 with ANY", x.told(5), 6);
        CHECK.due("18 NODES", x.told(4), 7);
    }
}
