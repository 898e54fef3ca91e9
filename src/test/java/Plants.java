/**
 * Plants to begin with: each has something in all that a call could change, and an image that is
 * not as things are now.
 */
final class Plants {
    static final Edges.Setup NEW = FaultGraph::new;
    static final Edges.Setup NO_GATES = Plants::noGates;
    static final Edges.Setup SMALL = Plants::small;
    static final Edges.Setup FULL = Plants::full;
    static final Edges.Setup[] ALL = {NEW, NO_GATES, SMALL, FULL};

    static final int CALLS_OF_SOME_OF_SIX = 29;

    /** A set-up of just a hundred bytes. */
    static final String HUNDRED = "c100p0p1p2p3;".repeat(7) + "p1;p001;a";

    private Plants() {
    }

    static void feedAll(FaultGraph x, String text) {
        for (int i = 0; i < text.length(); i++) {
            x.feed(text.charAt(i));
        }
    }

    /** So many parts of odds 50. */
    static FaultGraph ofParts(int many) {
        FaultGraph x = new FaultGraph();
        for (int p = 0; p < many; p++) {
            x.part(50);
        }
        return x;
    }

    /** So many parts, and one gate with the first four of them. */
    static FaultGraph oneGate(int parts, int kind, int k) {
        FaultGraph x = ofParts(parts);
        x.gate(kind, k);
        for (int p = 0; p < parts && p < 4; p++) {
            x.join(0, true, p);
        }
        return x;
    }

    /** The top fails if so many of six parts do, 3 or 4: the most cuts or the most paths there can be. */
    static FaultGraph someOfSix(int many) {
        FaultGraph x = ofParts(6);
        for (int g = 0; g < 3; g++) {
            x.gate(2, many - 2 + g);
            for (int p = 2; p < 6; p++) {
                x.join(g, true, p);
            }
        }
        x.gate(2, 3);
        x.join(3, true, 0);
        x.join(3, true, 1);
        x.join(3, false, 0);
        x.join(3, false, 1);
        x.gate(1, 0);
        x.join(4, false, 2);
        x.join(4, false, 3);
        return x;
    }

    /** Each node has one part: the chain of all of six parts, one by one. */
    static FaultGraph allOfSix(int kind) {
        FaultGraph x = ofParts(6);
        x.gate(kind, 0);
        x.gate(kind, 0);
        for (int p = 0; p < 3; p++) {
            x.join(0, true, p);
            x.join(1, true, 3 + p);
        }
        x.join(1, false, 0);
        return x;
    }

    private static FaultGraph noGates() {
        FaultGraph x = new FaultGraph();
        x.part(30);
        x.image();
        x.part(40);
        x.part(50);
        x.move(2, 0);
        x.cause(5, 6);
        x.see(7, true);
        x.event(1, 1);
        x.book(3);
        feedAll(x, "p5");
        tapesOfAllSorts(x);
        return x;
    }

    /** Part 2 or parts 0 and 1: the cuts are 4 and 3. */
    private static FaultGraph small() {
        FaultGraph x = new FaultGraph();
        x.part(10);
        x.part(20);
        x.gate(0, 2);
        x.join(0, true, 0);
        x.join(0, true, 1);
        x.cause(15, 2);
        x.see(3, true);
        x.event(3, 0);
        x.book(3);
        x.move(1, 0);
        x.image();
        x.part(30);
        x.gate(1, 3);
        x.join(1, false, 0);
        x.join(1, true, 2);
        x.cause(25, 5);
        x.see(0, false);
        x.event(0, 2);
        x.book(1);
        x.move(2, 0);
        feedAll(x, "o;j1p0");
        tapesOfAllSorts(x);
        return x;
    }

    private static void tapesOfAllSorts(FaultGraph x) {
        for (int sort = 0; sort < 5; sort++) {
            x.tape(sort, sort, 2);
            x.item(sort, 0, 4);
            x.item(sort, 1, -3);
        }
    }

    /** Nothing more can come; what came last is not in the image. 192 calls make it. */
    private static FaultGraph full() {
        FaultGraph x = new FaultGraph();
        int[] odds = {10, 20, 0, 100, 50};
        for (int p = 0; p < 5; p++) {
            x.part(odds[p]);
        }
        for (int g = 0; g < 7; g++) {
            x.gate(g % 3, g % 4);
            for (int i = 0; i < 4; i++) {
                boolean isPart = g == 0 || i < 2;
                x.join(g, isPart, isPart ? (g + i) % 5 : Math.max(g - i, 0));
            }
        }
        x.cause(15, 2);
        x.cause(100, 16);
        for (int n = 0; n < 5; n++) {
            x.see(n * 6, n > 1);
        }
        for (int n = 0; n < 7; n++) {
            x.event(n % 4, n % 5);
            x.book(3 * n);
        }
        x.move(4, 1);
        x.image();
        x.part(7);
        x.gate(1, 5);
        x.join(7, true, 5);
        x.join(7, false, 6);
        x.join(7, true, 5);
        x.join(7, false, 1);
        x.cause(1, 33);
        x.see(33, true);
        x.event(1, 5);
        x.book(32);
        x.move(5, 0);
        x.top(7);
        feedAll(x, HUNDRED);
        tapesOfAllSorts(x);
        x.tape(5, 0, 60);
        x.item(5, 59, 63);
        return x;
    }
}
