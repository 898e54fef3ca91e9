import java.math.BigInteger;
import java.util.ArrayList;
import java.util.Arrays;
import java.util.HashMap;
import java.util.List;
import java.util.Map;
import java.util.TreeSet;
import java.util.regex.Matcher;
import java.util.regex.Pattern;

/**
 * The document once more, written as its words stand and by other means than the class: sets of
 * numbers, functions as texts, big fractions, a pattern for the set-ups. Slow, and only for tests.
 */
final class Model {
    private static final long NO = Long.MIN_VALUE;
    private static final String CLAUSE =
        "(?:p[0-9]{1,3}|a|o|s[0-9]|j[0-9][pg][0-9]|c[0-9]{1,3}(?:p[0-9]){1,4})";
    private static final Pattern SET_UP = Pattern.compile(CLAUSE + "(?:;" + CLAUSE + "){0,15}");

    private static final class Gate {
        int kind;
        int k;
        List<String> inputs = new ArrayList<>();

        Gate copy() {
            Gate g = new Gate();
            g.kind = kind;
            g.k = k;
            g.inputs.addAll(inputs);
            return g;
        }
    }

    private static final class World {
        List<Integer> partOdds = new ArrayList<>();
        List<Gate> gates = new ArrayList<>();
        List<int[]> causes = new ArrayList<>();
        List<Integer> order = new ArrayList<>();
        Integer handTop;
        List<int[]> seen = new ArrayList<>();
        List<int[]> events = new ArrayList<>();
        List<Integer> bookRows = new ArrayList<>();

        World copy() {
            World w = new World();
            w.partOdds.addAll(partOdds);
            for (Gate g : gates) {
                w.gates.add(g.copy());
            }
            for (int[] c : causes) {
                w.causes.add(c.clone());
            }
            w.order.addAll(order);
            w.handTop = handTop;
            w.seen.addAll(seen);
            w.events.addAll(events);
            w.bookRows.addAll(bookRows);
            return w;
        }

        int top() {
            if (gates.isEmpty()) {
                return -5;
            }
            return handTop == null ? gates.size() - 1 : handTop;
        }

        boolean gateFails(int gate, TreeSet<Integer> broken) {
            Gate g = gates.get(gate);
            int failing = 0;
            for (String input : g.inputs) {
                int n = Integer.parseInt(input.substring(1));
                if (input.charAt(0) == 'p' ? broken.contains(n) : gateFails(n, broken)) {
                    failing++;
                }
            }
            switch (g.kind) {
                case 0: return failing == g.inputs.size();
                case 1: return failing > 0;
                default: return failing >= g.k;
            }
        }

        boolean topFails(TreeSet<Integer> broken) {
            return gateFails(top(), broken);
        }

        List<TreeSet<Integer>> allSets() {
            List<TreeSet<Integer>> all = new ArrayList<>();
            for (int bits = 0; bits < 1 << partOdds.size(); bits++) {
                all.add(setOf(bits));
            }
            return all;
        }

        boolean keepsUp(TreeSet<Integer> set) {
            TreeSet<Integer> others = setOf((1 << partOdds.size()) - 1);
            others.removeAll(set);
            return !topFails(others);
        }

        List<Integer> least(boolean isCut) {
            List<TreeSet<Integer>> found = new ArrayList<>();
            for (TreeSet<Integer> set : allSets()) {
                boolean isLeast = isCut ? topFails(set) : keepsUp(set);
                for (Integer p : set) {
                    TreeSet<Integer> less = new TreeSet<>(set);
                    less.remove(p);
                    isLeast &= !(isCut ? topFails(less) : keepsUp(less));
                }
                if (isLeast) {
                    found.add(set);
                }
            }
            found.sort((a, b) -> a.size() != b.size()
                ? Integer.compare(a.size(), b.size()) : Integer.compare(bitsOf(a), bitsOf(b)));
            List<Integer> bits = new ArrayList<>();
            for (TreeSet<Integer> set : found) {
                bits.add(bitsOf(set));
            }
            return bits;
        }

        /** A function by what it says of all sets of the parts from a place of the order on. */
        String function() {
            StringBuilder says = new StringBuilder();
            int n = order.size();
            for (int row = 0; row < 1 << n; row++) {
                TreeSet<Integer> broken = new TreeSet<>();
                for (int place = 0; place < n; place++) {
                    // the first place turns slowest: the halves of the text are its two sides
                    if ((row >> (n - 1 - place) & 1) == 1) {
                        broken.add(order.get(place));
                    }
                }
                says.append(topFails(broken) ? '1' : '0');
            }
            return says.toString();
        }

        List<int[]> nodes() {
            List<int[]> nodes = new ArrayList<>();
            node(function(), 0, nodes, new HashMap<>());
            return nodes;
        }

        int node(String says, int place, List<int[]> nodes, Map<String, Integer> known) {
            if (says.indexOf('1') < 0) {
                return -6;
            }
            if (says.indexOf('0') < 0) {
                return -7;
            }
            String works = says.substring(0, says.length() / 2);
            String fails = says.substring(says.length() / 2);
            if (works.equals(fails)) {
                return node(works, place + 1, nodes, known);
            }
            if (known.containsKey(says)) {
                return known.get(says);
            }
            int number = nodes.size();
            int[] row = {order.get(place), 0, 0};
            nodes.add(row);
            known.put(says, number);
            row[1] = node(works, place + 1, nodes, known);
            row[2] = node(fails, place + 1, nodes, known);
            return number;
        }

        BigInteger[] chance() {
            int n = partOdds.size();
            int all = n + causes.size();
            BigInteger sum = BigInteger.ZERO;
            for (int turn = 0; turn < 1 << all; turn++) {
                BigInteger product = BigInteger.ONE;
                TreeSet<Integer> broken = new TreeSet<>();
                for (int i = 0; i < all; i++) {
                    boolean isSo = (turn >> i & 1) == 1;
                    int odds = i < n ? partOdds.get(i) : causes.get(i - n)[0];
                    product = product.multiply(BigInteger.valueOf(isSo ? odds : 100 - odds));
                    if (isSo && i < n) {
                        broken.add(i);
                    } else if (isSo) {
                        broken.addAll(setOf(causes.get(i - n)[1]));
                    }
                }
                if (product.signum() != 0 && topFails(broken)) {
                    sum = sum.add(product);
                }
            }
            return lowest(sum, BigInteger.valueOf(100).pow(all));
        }

        BigInteger[] weight(int part) {
            World so = copy();
            so.partOdds.set(part, 100);
            World not = copy();
            not.partOdds.set(part, 0);
            BigInteger[] a = so.chance();
            BigInteger[] b = not.chance();
            return lowest(a[0].multiply(b[1]).subtract(b[0].multiply(a[1])), a[1].multiply(b[1]));
        }

        int most() {
            int most = -5;
            BigInteger[] best = null;
            for (int p = 0; p < partOdds.size(); p++) {
                BigInteger[] w = weight(p);
                if (best == null || w[0].multiply(best[1]).compareTo(best[0].multiply(w[1])) > 0) {
                    best = w;
                    most = p;
                }
            }
            return most;
        }
    }

    private static TreeSet<Integer> setOf(int bits) {
        TreeSet<Integer> set = new TreeSet<>();
        for (int p = 0; p < 31; p++) {
            if ((bits >> p & 1) == 1) {
                set.add(p);
            }
        }
        return set;
    }

    private static int bitsOf(TreeSet<Integer> set) {
        int bits = 0;
        for (int p : set) {
            bits += 1 << p;
        }
        return bits;
    }

    private static BigInteger[] lowest(BigInteger above, BigInteger below) {
        BigInteger g = above.gcd(below);
        return new BigInteger[] {above.divide(g), below.divide(g)};
    }

    private World w = new World();
    private World kept;
    private String text = "";
    private final Object[] tapes = new Object[6];

    private boolean isPart(int n) {
        return n >= 0 && n < w.partOdds.size();
    }

    private boolean isGate(int n) {
        return n >= 0 && n < w.gates.size();
    }

    private boolean isBits(int bits) {
        return bits >= 0 && (bits == 0 || setOf(bits).last() < w.partOdds.size());
    }

    private static boolean in(int n, int least, int most) {
        return n >= least && n <= most;
    }

    int part(int odds) {
        if (!in(odds, 0, 100)) return -2;
        if (w.partOdds.size() == 6) return -4;
        w.order.add(w.partOdds.size());
        w.partOdds.add(odds);
        return w.partOdds.size() - 1;
    }

    int gate(int kind, int k) {
        if (!in(kind, 0, 2) || !in(k, 0, 5)) return -2;
        if (w.gates.size() == 8) return -4;
        Gate g = new Gate();
        g.kind = kind;
        g.k = k;
        w.gates.add(g);
        return w.gates.size() - 1;
    }

    int turn(int gate, int kind, int k) {
        if (!isGate(gate)) return -1;
        if (!in(kind, 0, 2) || !in(k, 0, 5)) return -2;
        Gate g = w.gates.get(gate);
        int was = g.kind * 10 + g.k;
        g.kind = kind;
        g.k = k;
        return was;
    }

    int join(int gate, boolean isPart, int n) {
        if (!isGate(gate) || !(isPart ? isPart(n) : isGate(n))) return -1;
        if (!isPart && n >= gate) return -3;
        List<String> inputs = w.gates.get(gate).inputs;
        if (inputs.size() == 4) return -4;
        inputs.add((isPart ? "p" : "g") + n);
        return inputs.size();
    }

    int drop(int gate) {
        if (!isGate(gate)) return -1;
        List<String> inputs = w.gates.get(gate).inputs;
        if (inputs.isEmpty()) return -3;
        inputs.remove(inputs.size() - 1);
        return inputs.size();
    }

    int top(int gate) {
        if (gate != -1 && !isGate(gate)) return -1;
        int was = w.top();
        w.handTop = gate == -1 ? null : Integer.valueOf(gate);
        return was;
    }

    int cause(int odds, int bits) {
        if (!in(odds, 0, 100) || !isBits(bits)) return -2;
        if (w.causes.size() == 3) return -4;
        w.causes.add(new int[] {odds, bits});
        return w.causes.size() - 1;
    }

    int odds(int side, int k, int v) {
        if (side == 0 && isPart(k)) return in(v, 0, 100) ? w.partOdds.set(k, v) : -2;
        if (side != 1 || !in(k, 0, w.causes.size() - 1)) return -1;
        if (!in(v, 0, 100)) return -2;
        int was = w.causes.get(k)[0];
        w.causes.get(k)[0] = v;
        return was;
    }

    int of(int side, int k, int what) {
        if (side == 0 && isPart(k) && what == 0) return w.partOdds.get(k);
        if (side == 0 && isPart(k) && what == 1) return w.order.indexOf(k);
        if (side == 2 && in(k, 0, w.causes.size() - 1) && in(what, 0, 1)) return w.causes.get(k)[what];
        if (side != 1 || !isGate(k)) return -1;
        Gate g = w.gates.get(k);
        if (what == 0) return g.kind;
        if (what == 1) return g.k;
        if (what == 2) return g.inputs.size();
        if (!in(what, 3, 6) || what - 3 >= g.inputs.size()) return -1;
        String input = g.inputs.get(what - 3);
        return Integer.parseInt(input.substring(1)) + (input.charAt(0) == 'g' ? 10 : 0);
    }

    int feed(int sign) {
        if (!in(sign, 0, 127)) return -2;
        if (text.length() == 100) return -4;
        text += (char) sign;
        return text.length();
    }

    int read() {
        String t = text;
        text = "";
        for (int n = 1; n <= t.length(); n++) {
            Matcher m = SET_UP.matcher(t.substring(0, n));
            if (!m.matches() && !m.hitEnd()) return -10 - (n - 1);
        }
        if (!SET_UP.matcher(t).matches()) return -10 - t.length();
        int done = 0;
        for (String clause : t.split(";")) {
            done += obey(clause) >= 0 ? 1 : 0;
        }
        return done;
    }

    private int obey(String c) {
        switch (c.charAt(0)) {
            case 'p': return part(Integer.parseInt(c.substring(1)));
            case 'a': return gate(0, 0);
            case 'o': return gate(1, 0);
            case 's': return gate(2, c.charAt(1) - '0');
            case 'j': return join(c.charAt(1) - '0', c.charAt(2) == 'p', c.charAt(3) - '0');
            default:
                String[] words = c.substring(1).split("p");
                TreeSet<Integer> parts = new TreeSet<>();
                for (int i = 1; i < words.length; i++) {
                    parts.add(Integer.parseInt(words[i]));
                }
                return cause(Integer.parseInt(words[0]), bitsOf(parts));
        }
    }

    int fails(int gate, int bits) {
        int g = gate == -1 ? w.top() : gate;
        if (!isGate(g)) return -1;
        if (!isBits(bits)) return -2;
        return w.gateFails(g, setOf(bits)) ? 1 : 0;
    }

    int move(int part, int place) {
        if (!isPart(part)) return -1;
        if (!isPart(place)) return -2;
        int was = w.order.indexOf(part);
        w.order.remove(Integer.valueOf(part));
        w.order.add(place, part);
        return was;
    }

    int sift(int part) {
        if (!isPart(part)) return -1;
        if (w.gates.isEmpty()) return -3;
        int best = 0;
        int fewest = 1000;
        for (int place = 0; place < w.order.size(); place++) {
            move(part, place);
            if (w.nodes().size() < fewest) {
                fewest = w.nodes().size();
                best = place;
            }
        }
        move(part, best);
        return best;
    }

    int at(int place) {
        return isPart(place) ? w.order.get(place) : -1;
    }

    int node(int node, int what) {
        if (w.gates.isEmpty()) return -3;
        List<int[]> nodes = w.nodes();
        return in(node, 0, nodes.size() - 1) && in(what, 0, 2) ? nodes.get(node)[what] : -1;
    }

    int told(int what) {
        if (!in(what, 0, 8)) return -1;
        if (what == 0) return w.partOdds.size();
        if (what == 1) return w.gates.size();
        if (what == 2) return w.causes.size();
        if (what == 3) return w.top();
        if (w.gates.isEmpty()) return -3;
        if (what == 4) return w.nodes().size();
        if (what == 5) return w.least(true).size();
        if (what == 6) return w.least(false).size();
        if (what == 7) return w.most();
        String says = w.function();
        return says.indexOf('0') < 0 ? 1 : says.indexOf('1') < 0 ? -1 : 0;
    }

    int cut(int k) {
        return set(k, true);
    }

    int path(int k) {
        return set(k, false);
    }

    private int set(int k, boolean isCut) {
        if (w.gates.isEmpty()) return -3;
        List<Integer> all = w.least(isCut);
        return in(k, 0, all.size() - 1) ? all.get(k) : -1;
    }

    long chance(int part) {
        if (!in(part, 0, 1) || w.gates.isEmpty()) return NO;
        return w.chance()[part].longValueExact();
    }

    long given(int cause, boolean isSo, int part) {
        if (!in(cause, 0, w.causes.size() - 1) || !in(part, 0, 1) || w.gates.isEmpty()) return NO;
        World other = w.copy();
        other.causes.get(cause)[0] = isSo ? 100 : 0;
        return other.chance()[part].longValueExact();
    }

    long weight(int part, int line) {
        if (!isPart(part) || !in(line, 0, 1) || w.gates.isEmpty()) return NO;
        return w.weight(part)[line].longValueExact();
    }

    int see(int bits, boolean isFailure) {
        if (bits == -1) {
            w.seen.clear();
            return 0;
        }
        if (!isBits(bits)) return -2;
        if (w.seen.size() == 6) return -4;
        w.seen.add(new int[] {bits, isFailure ? 1 : 0});
        return w.seen.size();
    }

    int fits(int gate, int what) {
        if (!isGate(gate) || !in(what, 0, 1)) return -1;
        List<Integer> fitting = new ArrayList<>();
        for (int k = 0; k <= 5; k++) {
            World other = w.copy();
            other.gates.get(gate).kind = 2;
            other.gates.get(gate).k = k;
            boolean isSo = true;
            for (int[] row : w.seen) {
                isSo &= other.topFails(setOf(row[0])) == (row[1] == 1);
            }
            if (isSo) {
                fitting.add(k);
            }
        }
        return what == 0 ? fitting.size() : fitting.isEmpty() ? -5 : fitting.get(0);
    }

    long mean(int line) {
        if (!in(line, 0, 1) || w.gates.isEmpty()) return NO;
        List<Integer> cuts = w.least(true);
        if (cuts.isEmpty()) return NO;
        int all = 0;
        for (int cut : cuts) {
            all += setOf(cut).size();
        }
        return lowest(BigInteger.valueOf(all), BigInteger.valueOf(cuts.size()))[line].longValueExact();
    }

    int event(int what, int n) {
        if (what == -1) {
            w.events.clear();
            return 0;
        }
        if (!in(what, 0, 3) || !(what < 2 ? isPart(n) : isGate(n))) return -1;
        if (w.events.size() == 8) return -4;
        w.events.add(new int[] {what, n});
        return w.events.size();
    }

    int after(int what) {
        if (!in(what, 0, 3)) return -1;
        if (w.gates.isEmpty()) return -3;
        World then = w.copy();
        for (int[] e : w.events) {
            if (e[0] < 2) {
                then.partOdds.set(e[1], e[0] * 100);
            } else {
                then.gates.get(e[1]).kind = e[0] - 2;
            }
        }
        if (what == 0) return then.least(true).size();
        if (what == 1) return then.nodes().size();
        if (what == 2) return then.topFails(new TreeSet<>()) ? 1 : 0;
        return then.most();
    }

    int book(int bits) {
        if (bits == -1) {
            w.bookRows.clear();
            return 0;
        }
        if (!isBits(bits)) return -2;
        if (w.bookRows.size() == 8) return -4;
        w.bookRows.add(bits);
        return w.bookRows.size();
    }

    int looked() {
        if (w.gates.isEmpty()) return -3;
        List<Integer> cuts = w.least(true);
        for (int i = 0; i < w.bookRows.size(); i++) {
            if (!cuts.contains(w.bookRows.get(i))) return i;
        }
        return -5;
    }

    int judge(int tape, int i) {
        if (!in(tape, 0, 5)) return -1;
        if (w.gates.isEmpty()) return -3;
        if (tapes[tape] != null && !(tapes[tape] instanceof byte[])) return -12;
        byte[] row = tapes[tape] == null ? new byte[0] : (byte[]) tapes[tape];
        List<Integer> cuts = w.least(true);
        for (int k = 0; k < cuts.size(); k++) {
            if (i < 0 || (long) i + k >= row.length) return 100 + k;
            if (row[i + k] != cuts.get(k)) return k;
        }
        return -5;
    }

    int image() {
        kept = w.copy();
        return w.gates.size();
    }

    int undo() {
        if (kept == null) return -3;
        w = kept.copy();
        return w.gates.size();
    }

    int count(int what) {
        if (what == 0) return w.seen.size();
        if (what == 1) return w.events.size();
        if (what == 2) return w.bookRows.size();
        return what == 3 ? text.length() : -2;
    }

    int tape(int tape, int sort, int n) {
        if (!in(tape, 0, 5)) return -1;
        if (sort == -1) {
            tapes[tape] = null;
            return 1;
        }
        if (!in(sort, 0, 4) || n > 60) return -2;
        if (n < 0) return -14;
        Object[] rows = {new byte[n], new short[n], new int[n], new long[n], new boolean[n]};
        tapes[tape] = rows[sort];
        return 1;
    }

    int item(int tape, int i, long v) {
        if (!in(tape, 0, 5)) return -1;
        Object row = tapes[tape];
        if (row == null) return -11;
        if (!in(i, 0, java.lang.reflect.Array.getLength(row) - 1)) return -13;
        if (row instanceof byte[]) {
            ((byte[]) row)[i] = (byte) v;
        } else if (row instanceof short[]) {
            ((short[]) row)[i] = (short) v;
        } else if (row instanceof int[]) {
            ((int[]) row)[i] = (int) v;
        } else if (row instanceof long[]) {
            ((long[]) row)[i] = v;
        } else {
            ((boolean[]) row)[i] = v != 0;
        }
        return 1;
    }

    long peek(int tape, int i) {
        if (!in(tape, 0, 5) || tapes[tape] == null) return NO;
        if (!in(i, 0, java.lang.reflect.Array.getLength(tapes[tape]) - 1)) return NO;
        Object item = java.lang.reflect.Array.get(tapes[tape], i);
        if (item instanceof Boolean) return (Boolean) item ? 1 : 0;
        return ((Number) item).longValue();
    }

    int shift(int tape, int i, int other, int j, int n) {
        if (!in(tape, 0, 5) || !in(other, 0, 5)) return -1;
        if (tapes[tape] == null || tapes[other] == null) return -11;
        if (tapes[tape].getClass() != tapes[other].getClass()) return -12;
        try {
            System.arraycopy(tapes[tape], i, tapes[other], j, n);
        } catch (IndexOutOfBoundsException e) {
            return -13;
        }
        return n;
    }

    @Override
    public String toString() {
        return "parts " + w.partOdds + " order " + w.order + " text " + text + " tapes " + Arrays.toString(tapes);
    }
}
