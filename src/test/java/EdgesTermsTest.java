/** What the document says of all calls: how long an object answers, what refusals and questions leave as it is. */
public final class EdgesTermsTest {
    private static final Edges E = new Edges("EdgesTermsTest");
    private static final int CALLS = 512;

    public static void main(String[] args) {
        the512thCall();
        all512CallsAreOne();
        askedOfPlantChangesNothing();
        askedOfGraphChangesNothing();
        askedOfOddsChangesNothing();
        askedOfRowsChangesNothing();
        askedOfTapesChangesNothing();
        bitsOfEachPart();
        E.finish();
    }

    /** "An object is used for at most 512 calls": the last of them answers as the first. */
    private static void the512thCall() {
        long[] due = {4, 0, 20, 56, 15, 3, 1, 6};
        Edges.Call[] last = {
            x -> x.told(3), x -> x.sift(5), x -> x.told(5), x -> x.cut(19), x -> x.told(6), x -> x.mean(0),
            x -> x.mean(1), x -> x.fits(4, 0)
        };
        for (int n = 0; n < last.length; n++) {
            FaultGraph x = Plants.someOfSix(3);
            for (int call = Plants.CALLS_OF_SOME_OF_SIX; call < CALLS - 1; call++) {
                x.at(call % 7);
            }
            E.due("512th call, " + n, last[n].on(x), due[n]);
        }
    }

    /** A row that is emptied and filled again, and a text that is fed and read, all the calls there are. */
    private static void all512CallsAreOne() {
        FaultGraph x = new FaultGraph();
        for (int call = 0; call < CALLS; call++) {
            E.due("see, call " + call, call % 7 == 6 ? x.see(-1, true) : x.see(0, true), call % 7 == 6 ? 0 : call % 7 + 1);
        }
        FaultGraph y = new FaultGraph();
        for (int call = 0; call < CALLS; call++) {
            E.due("image and undo, call " + call, call % 2 == 0 ? y.image() : y.undo(), 0);
        }
        FaultGraph z = new FaultGraph();
        for (int call = 0; call < CALLS; call++) {
            E.due("feed and read, call " + call, call % 2 == 0 ? z.feed('x') : z.read(), call % 2 == 0 ? 1 : -10);
        }
    }

    private static void asked(String name, Edges.Call call) {
        for (int s = 0; s < Plants.ALL.length; s++) {
            Edges.Setup setup = Plants.ALL[s];
            E.still(name + " of plant " + s, setup, call.on(setup.make()), call);
        }
    }

    /** "what is asked changes nothing", promises 10, 13, 16, 18. */
    private static void askedOfPlantChangesNothing() {
        for (int side = 0; side < 3; side++) {
            for (int k = 0; k < 8; k += 2) {
                for (int what = 0; what < 7; what++) {
                    int[] of = {side, k, what};
                    asked("10 of(" + side + ", " + k + ", " + what + ")", x -> x.of(of[0], of[1], of[2]));
                }
            }
        }
        for (int gate = -1; gate < 8; gate++) {
            for (int bits = 0; bits < 64; bits += 9) {
                int g = gate;
                int set = bits;
                asked("13 fails(" + g + ", " + set + ")", x -> x.fails(g, set));
            }
        }
        for (int n = 0; n < 9; n++) {
            int what = n;
            asked("16 at(" + n + ")", x -> x.at(what));
            asked("18 told(" + n + ")", x -> x.told(what));
        }
    }

    /** "what is asked changes nothing", promises 17, 19, 20. */
    private static void askedOfGraphChangesNothing() {
        for (int n = 0; n < 12; n++) {
            int k = n;
            asked("17 node(" + n + ", 0)", x -> x.node(k, 0));
            asked("17 node(" + n + ", 1)", x -> x.node(k, 1));
            asked("17 node(" + n + ", 2)", x -> x.node(k, 2));
            asked("19 cut(" + n + ")", x -> x.cut(k));
            asked("20 path(" + n + ")", x -> x.path(k));
        }
    }

    /** "what is asked changes nothing", promises 21 to 23. */
    private static void askedOfOddsChangesNothing() {
        for (int line = 0; line < 2; line++) {
            int of = line;
            asked("21 chance(" + line + ")", x -> x.chance(of));
            for (int cause = 0; cause < 3; cause++) {
                int c = cause;
                asked("22 given(" + c + ", true, " + line + ")", x -> x.given(c, true, of));
                asked("22 given(" + c + ", false, " + line + ")", x -> x.given(c, false, of));
            }
            for (int part = 0; part < 6; part++) {
                int p = part;
                asked("23 weight(" + p + ", " + line + ")", x -> x.weight(p, of));
            }
        }
    }

    /** "what is asked changes nothing", promises 25, 26, 28, 30, 34. */
    private static void askedOfRowsChangesNothing() {
        for (int gate = 0; gate < 8; gate++) {
            int g = gate;
            asked("25 fits(" + g + ", 0)", x -> x.fits(g, 0));
            asked("25 fits(" + g + ", 1)", x -> x.fits(g, 1));
        }
        for (int n = 0; n < 4; n++) {
            int what = n;
            asked("26 mean(" + n + ")", x -> x.mean(what));
            asked("28 after(" + n + ")", x -> x.after(what));
            asked("34 count(" + n + ")", x -> x.count(what));
        }
        asked("30 looked()", FaultGraph::looked);
    }

    /** "what is asked changes nothing", promises 31, 37. */
    private static void askedOfTapesChangesNothing() {
        for (int tape = 0; tape < 6; tape++) {
            for (int i = -1; i < 3; i++) {
                int t = tape;
                int place = i;
                asked("31 judge(" + t + ", " + i + ")", x -> x.judge(t, place));
                asked("37 peek(" + t + ", " + i + ")", x -> x.peek(t, place));
            }
        }
    }

    /** "BITS of a set of PARTS: of each PART p 2 to the p, together", in all that takes or tells them. */
    private static void bitsOfEachPart() {
        for (int part = 0; part < 6; part++) {
            FaultGraph x = Plants.ofParts(6);
            x.gate(0, 0);
            x.join(0, true, part);
            int bits = 1 << part;
            E.due("13 it alone fails", x.fails(0, bits), 1);
            E.due("13 all others fail", x.fails(0, 63 - bits), 0);
            E.due("19 its cut", x.cut(0), bits);
            E.due("20 its path", x.path(0), bits);
            x.book(bits);
            E.due("30 its book", x.looked(), Edges.NOT_ANY);
            x.see(bits, true);
            x.see(63 - bits, false);
            E.due("25 as seen", x.fits(0, 1), 1);
            x.cause(100, bits);
            E.due("8 its cause", x.of(2, 0, 1), bits);
            E.due("21 breaks it", x.chance(1), 1);
            x.turn(0, 2, 1);
            x.tape(0, 0, 1);
            x.item(0, 0, bits);
            E.due("31 told by a tape", x.judge(0, 0), Edges.NOT_ANY);
        }
    }
}
