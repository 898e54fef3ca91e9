import java.util.ArrayList;
import java.util.List;
import java.util.Random;

/** Long runs of mixed calls: the class and the model must answer alike, call by call. */
public final class ModelTest {
    private static final int RUNS = 700;
    private static final int CALLS = 512;
    /** Some steps are a run of calls: none begins so late that it goes beyond the last call. */
    private static final int LONGEST_STEP = 220;
    private static final int FEEDS = 12, WRITES = 43;
    private static final int[] EDGES = {
        Integer.MIN_VALUE, -60, -7, -2, -1, 0, 1, 2, 3, 4, 5, 6, 7, 8, 9, 10, 16, 31, 32, 60, 61, 63,
        64, 99, 100, 101, 127, 128, 1 << 30, Integer.MAX_VALUE - 1, Integer.MAX_VALUE
    };
    private static final Check CHECK = new Check("ModelTest");

    private final Random random;
    private final FaultGraph x = new FaultGraph();
    private final Model m = new Model();
    private final List<String> calls = new ArrayList<>();

    private ModelTest(long seed) {
        random = new Random(seed);
    }

    public static void main(String[] args) {
        for (int run = 0; run < RUNS && CHECK.isClean(); run++) {
            ModelTest test = new ModelTest(run);
            test.go(run);
            if (!CHECK.isClean()) {
                System.out.println("run " + run + ": " + test.calls);
            }
        }
        CHECK.finish();
    }

    private void go(int run) {
        boolean startsBuilt = run % 4 != 0;
        if (startsBuilt) {
            build();
        }
        while (calls.size() < CALLS && CHECK.isClean()) {
            int call = random.nextInt(44);
            boolean isLong = call == FEEDS || call == WRITES;
            if (!isLong || calls.size() < CALLS - LONGEST_STEP) {
                step(call);
            }
        }
    }

    /** A plant with something in it, as most chance calls on an empty one would be refused. */
    private void build() {
        int parts = random.nextInt(7);
        for (int i = 0; i < parts; i++) {
            step(0);
        }
        int gates = 1 + random.nextInt(8);
        for (int g = 0; g < gates; g++) {
            step(1);
            int inputs = random.nextInt(5);
            for (int i = 0; i < inputs; i++) {
                boolean isPart = g == 0 || random.nextBoolean();
                int n = random.nextInt(isPart ? Math.max(parts, 1) : g);
                due("join(" + g + ", " + isPart + ", " + n + ")", x.join(g, isPart, n), m.join(g, isPart, n));
            }
        }
        if (random.nextBoolean()) {
            step(6);
        }
    }

    private void due(String call, long got, long want) {
        calls.add(call);
        CHECK.due(call, got, want);
    }

    /** Mostly a number within bounds, now and then one beyond. */
    private int n(int most) {
        return random.nextInt(12) == 0 ? EDGES[random.nextInt(EDGES.length)] : random.nextInt(most + 1);
    }

    private int bits() {
        if (random.nextInt(12) == 0) {
            return n(70);
        }
        int parts = m.told(0);
        return random.nextInt(1 << parts);
    }

    private boolean yes() {
        return random.nextBoolean();
    }

    private void step(int call) {
        int a = n(7);
        int b = n(7);
        int c = n(5);
        int bits = bits();
        boolean yes = yes();
        switch (call) {
            case 0: { int o = n(100); due("part(" + o + ")", x.part(o), m.part(o)); break; }
            case 1: { int k = n(2); due("gate(" + k + ", " + c + ")", x.gate(k, c), m.gate(k, c)); break; }
            case 2: { int k = n(2); due("turn(" + a + ", " + k + ", " + c + ")", x.turn(a, k, c), m.turn(a, k, c)); break; }
            case 3:
            case 4: due("join(" + a + ", " + yes + ", " + b + ")", x.join(a, yes, b), m.join(a, yes, b)); break;
            case 5: due("drop(" + a + ")", x.drop(a), m.drop(a)); break;
            case 6: { int g = n(8) - 1; due("top(" + g + ")", x.top(g), m.top(g)); break; }
            case 7: { int o = n(100); due("cause(" + o + ", " + bits + ")", x.cause(o, bits), m.cause(o, bits)); break; }
            case 8: { int s = n(1); int v = n(100); due("odds(" + s + ", " + c + ", " + v + ")", x.odds(s, c, v), m.odds(s, c, v)); break; }
            case 9:
            case 10: { int s = n(2); int w = n(6); due("of(" + s + ", " + c + ", " + w + ")", x.of(s, c, w), m.of(s, c, w)); break; }
            case 11: { int s = n(127); due("feed(" + s + ")", x.feed(s), m.feed(s)); break; }
            case FEEDS: feedSetUp(); break;
            case 13: due("read()", x.read(), m.read()); break;
            case 14: { int g = n(8) - 1; due("fails(" + g + ", " + bits + ")", x.fails(g, bits), m.fails(g, bits)); break; }
            case 15: due("move(" + a + ", " + b + ")", x.move(a, b), m.move(a, b)); break;
            case 16: due("sift(" + c + ")", x.sift(c), m.sift(c)); break;
            case 17: due("at(" + c + ")", x.at(c), m.at(c)); break;
            case 18:
            case 19: { int w = n(2); int v = n(9); due("node(" + v + ", " + w + ")", x.node(v, w), m.node(v, w)); break; }
            case 20:
            case 21: { int w = n(9); due("told(" + w + ")", x.told(w), m.told(w)); break; }
            case 22: due("cut(" + a + ")", x.cut(a), m.cut(a)); break;
            case 23: due("path(" + a + ")", x.path(a), m.path(a)); break;
            case 24: { int w = n(1); due("chance(" + w + ")", x.chance(w), m.chance(w)); break; }
            case 25: { int k = n(2); int w = n(1); due("given(" + k + ", " + yes + ", " + w + ")", x.given(k, yes, w), m.given(k, yes, w)); break; }
            case 26: { int w = n(1); due("weight(" + c + ", " + w + ")", x.weight(c, w), m.weight(c, w)); break; }
            case 27: see(bits); break;
            case 28: { int w = n(1); due("fits(" + a + ", " + w + ")", x.fits(a, w), m.fits(a, w)); break; }
            case 29: { int w = n(1); due("mean(" + w + ")", x.mean(w), m.mean(w)); break; }
            case 30: { int w = random.nextInt(15) == 0 ? -1 : n(3); due("event(" + w + ", " + c + ")", x.event(w, c), m.event(w, c)); break; }
            case 31: { int w = n(3); due("after(" + w + ")", x.after(w), m.after(w)); break; }
            case 32: book(bits); break;
            case 33: due("looked()", x.looked(), m.looked()); break;
            case 34: { int t = n(5); int i = n(4); due("judge(" + t + ", " + i + ")", x.judge(t, i), m.judge(t, i)); break; }
            case 35: if (random.nextInt(4) == 0) { due("image()", x.image(), m.image()); } break;
            case 36: if (random.nextInt(6) == 0) { due("undo()", x.undo(), m.undo()); } break;
            case 37: { int w = n(3); due("count(" + w + ")", x.count(w), m.count(w)); break; }
            case 38: { int t = n(5); int s = n(5) - 1; int l = n(12); due("tape(" + t + ", " + s + ", " + l + ")", x.tape(t, s, l), m.tape(t, s, l)); break; }
            case 39: { int t = n(5); int i = n(12); long v = value(); due("item(" + t + ", " + i + ", " + v + ")", x.item(t, i, v), m.item(t, i, v)); break; }
            case 40: { int t = n(5); int i = n(12); due("peek(" + t + ", " + i + ")", x.peek(t, i), m.peek(t, i)); break; }
            case 41:
            case 42: shift(); break;
            case WRITES: if (random.nextInt(4) == 0) { writeCuts(); } break;
            default: break;
        }
    }

    private void see(int bits) {
        int row = random.nextInt(10) == 0 ? -1 : bits;
        // what is so is seen more often than not, or nothing would ever fit
        boolean isSo = random.nextInt(4) == 0 ? yes() : m.fails(-1, Math.max(row, 0)) == 1;
        due("see(" + row + ", " + isSo + ")", x.see(row, isSo), m.see(row, isSo));
    }

    private void book(int bits) {
        int row = random.nextInt(10) == 0 ? -1 : bits;
        if (yes() && m.cut(0) >= 0) {
            row = m.cut(random.nextInt(m.told(5)));
        }
        due("book(" + row + ")", x.book(row), m.book(row));
    }

    private long value() {
        switch (random.nextInt(4)) {
            case 0: return random.nextLong();
            case 1: return 1L << random.nextInt(64);
            default: return random.nextInt(64);
        }
    }

    private void shift() {
        int t = n(5);
        int o = yes() ? t : n(5);
        int i = n(6);
        int j = n(6);
        int k = n(6);
        due("shift(" + t + ", " + i + ", " + o + ", " + j + ", " + k + ")", x.shift(t, i, o, j, k), m.shift(t, i, o, j, k));
    }

    /** The cuts on a tape, now and then with one changed or missing, and judged. */
    private void writeCuts() {
        int many = Math.max(m.told(5), 0);
        int from = random.nextInt(3);
        int length = Math.min(60, from + many - (random.nextInt(4) == 0 ? 1 : 0));
        due("tape(0, 0, " + length + ")", x.tape(0, 0, length), m.tape(0, 0, length));
        for (int k = 0; k < many; k++) {
            long v = random.nextInt(12) == 0 ? value() : m.cut(k);
            due("item(0, " + (from + k) + ", " + v + ")", x.item(0, from + k, v), m.item(0, from + k, v));
        }
        due("judge(0, " + from + ")", x.judge(0, from), m.judge(0, from));
    }

    private void feedSetUp() {
        if (random.nextInt(3) == 0) {
            due("read()", x.read(), m.read());
        }
        StringBuilder text = new StringBuilder();
        int clauses = 1 + random.nextInt(random.nextInt(5) == 0 ? 18 : 5);
        for (int i = 0; i < clauses; i++) {
            text.append(i == 0 ? "" : ";").append(clause());
        }
        if (random.nextInt(4) == 0) {
            int at = random.nextInt(text.length());
            text.setCharAt(at, "paosjcg;0 59".charAt(random.nextInt(12)));
        }
        if (random.nextInt(6) == 0) {
            text.setLength(random.nextInt(text.length() + 1));
        }
        for (int i = 0; i < text.length(); i++) {
            due("feed(" + (int) text.charAt(i) + ")", x.feed(text.charAt(i)), m.feed(text.charAt(i)));
        }
        if (random.nextInt(4) != 0) {
            due("read()", x.read(), m.read());
        }
    }

    private String clause() {
        switch (random.nextInt(7)) {
            case 0: return "p" + random.nextInt(random.nextInt(8) == 0 ? 1200 : 101);
            case 1: return "a";
            case 2: return "o";
            case 3: return "s" + random.nextInt(7);
            case 4: return "j" + random.nextInt(8) + "p" + random.nextInt(7);
            case 5: return "j" + random.nextInt(8) + "g" + random.nextInt(8);
            default:
                StringBuilder cause = new StringBuilder("c").append(random.nextInt(103));
                int parts = 1 + random.nextInt(random.nextInt(6) == 0 ? 5 : 4);
                for (int i = 0; i < parts; i++) {
                    cause.append('p').append(random.nextInt(6));
                }
                return cause.toString();
        }
    }
}
