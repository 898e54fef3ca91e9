import java.util.ArrayList;
import java.util.List;

/**
 * All that can be asked of an object, written down call by call, so that two objects can be held
 * against each other.
 */
final class Look {
    private static final int GREATEST_TAPE = 60;
    private static final long NO = Long.MIN_VALUE;

    private final FaultGraph x;
    private final List<String> rows = new ArrayList<>();

    private Look(FaultGraph x) {
        this.x = x;
    }

    /** What can be asked now; none of it changes the object. */
    static List<String> at(FaultGraph x) {
        Look look = new Look(x);
        look.plant();
        look.rowsByHand();
        look.tapes();
        return look.rows;
    }

    /** Parts, gates, causes, top, order, seen, events and the book, and no more: what an image holds. */
    static List<String> atImage(FaultGraph x) {
        Look look = new Look(x);
        look.plant();
        look.rowsByHand();
        return look.rows;
    }

    /** What the image and the text have in them comes to light by undo and read only. */
    static List<String> behindImage(FaultGraph x) {
        Look look = new Look(x);
        look.row("count(3)", x.count(3));
        look.row("undo()", x.undo());
        look.plant();
        look.rowsByHand();
        look.row("read()", x.read());
        look.sizes();
        return look.rows;
    }

    private long row(String call, long answer) {
        rows.add(call + " = " + answer);
        return answer;
    }

    private int[] sizes() {
        int[] sizes = new int[4];
        for (int what = 0; what < 4; what++) {
            sizes[what] = (int) row("told(" + what + ")", x.told(what));
        }
        return sizes;
    }

    private void plant() {
        int[] sizes = sizes();
        int[] whats = {2, 7, 2};
        for (int side = 0; side < 3; side++) {
            for (int k = 0; k < sizes[side]; k++) {
                for (int what = 0; what < whats[side]; what++) {
                    row("of(" + side + ", " + k + ", " + what + ")", x.of(side, k, what));
                }
            }
        }
        for (int place = 0; place <= sizes[0]; place++) {
            row("at(" + place + ")", x.at(place));
        }
        for (int what = 7; what < 9; what++) {
            row("told(" + what + ")", x.told(what));
        }
        graphAndSets();
    }

    private void graphAndSets() {
        long nodes = row("told(4)", x.told(4));
        for (int node = 0; node < nodes; node++) {
            for (int what = 0; what < 3; what++) {
                row("node(" + node + ", " + what + ")", x.node(node, what));
            }
        }
        long cuts = row("told(5)", x.told(5));
        for (int k = 0; k < cuts; k++) {
            row("cut(" + k + ")", x.cut(k));
        }
        long paths = row("told(6)", x.told(6));
        for (int k = 0; k < paths; k++) {
            row("path(" + k + ")", x.path(k));
        }
        for (int line = 0; line < 2; line++) {
            row("chance(" + line + ")", x.chance(line));
            row("mean(" + line + ")", x.mean(line));
        }
    }

    private void rowsByHand() {
        for (int what = 0; what < 3; what++) {
            row("count(" + what + ")", x.count(what));
        }
        for (int what = 0; what < 4; what++) {
            row("after(" + what + ")", x.after(what));
        }
        long gates = x.told(1);
        for (int gate = 0; gate < gates; gate++) {
            row("fits(" + gate + ", 0)", x.fits(gate, 0));
            row("fits(" + gate + ", 1)", x.fits(gate, 1));
        }
        row("looked()", x.looked());
    }

    private void tapes() {
        row("count(3)", x.count(3));
        for (int tape = 0; tape < 6; tape++) {
            long item = 0;
            for (int i = 0; i <= GREATEST_TAPE && item != NO; i++) {
                item = row("peek(" + tape + ", " + i + ")", x.peek(tape, i));
            }
            row("judge(" + tape + ", 0)", x.judge(tape, 0));
            // none are shifted, so this tells only what is there and which sorts are alike
            for (int other = 0; other <= tape; other++) {
                row("shift(" + tape + ", 0, " + other + ", 0, 0)", x.shift(tape, 0, other, 0, 0));
            }
        }
    }
}
