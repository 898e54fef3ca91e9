import java.util.IdentityHashMap;
import java.util.List;
import java.util.Map;
import java.util.stream.IntStream;

/** Calls at the edges, each made on an object of its own, so that none stands in another's way. */
final class Edges {
    static final int LEAST = Integer.MIN_VALUE, MOST = Integer.MAX_VALUE;
    static final long NO = Long.MIN_VALUE;
    static final int NONE = -1, BAD = -2, STATE = -3, FULL = -4, NOT_ANY = -5, NEVER = -6, EVER = -7;
    static final int NOTHING = -11, CAST = -12, PLACE = -13, SIZE = -14;

    /** An object with what is to be there ahead of a call. */
    interface Setup {
        FaultGraph make();
    }

    interface Call {
        long on(FaultGraph x);
    }

    private final Check check;
    private final Map<Setup, List<String>> nowBySetup = new IdentityHashMap<>();
    private final Map<Setup, List<String>> imageBySetup = new IdentityHashMap<>();

    Edges(String name) {
        check = new Check(name);
    }

    /** Beyond both ends of a range; the last ones would be within it if a number lost its upper bits. */
    static int[] outside(int least, int most) {
        int[] beyond = {
            LEAST, LEAST + 1, -100, -10, -2, -1, least - 1, most + 1, most + 2, MOST - 1, MOST,
            least + (1 << 8), least + (1 << 16), least + (1 << 24), LEAST + most
        };
        return IntStream.of(beyond).filter(n -> n < least || n > most).distinct().toArray();
    }

    /** As outside, but for a number that has a meaning of its own. */
    static int[] outsideBut(int least, int most, int known) {
        return IntStream.of(outside(least, most)).filter(n -> n != known).toArray();
    }

    void due(String name, long got, long want) {
        check.due(name, got, want);
    }

    void same(String name, List<String> got, List<String> want) {
        check.due(name + ": answers looked at", got.size(), want.size());
        for (int i = 0; i < Math.min(got.size(), want.size()); i++) {
            if (!got.get(i).equals(want.get(i))) {
                check.holds(name + ": " + want.get(i) + " became " + got.get(i), false);
                return;
            }
        }
        check.holds(name, true);
    }

    /** The call answers so, also if it is made again, and all that can be asked is as without it. */
    void still(String name, Setup setup, long want, Call call) {
        FaultGraph x = setup.make();
        check.due(name, call.on(x), want);
        check.due(name + ", again", call.on(x), want);
        same(name + " changes nothing", Look.at(x), nowBySetup.computeIfAbsent(setup, s -> Look.at(s.make())));
        FaultGraph y = setup.make();
        call.on(y);
        same(name + " changes no image and no text", Look.behindImage(y),
            imageBySetup.computeIfAbsent(setup, s -> Look.behindImage(s.make())));
    }

    void finish() {
        check.finish();
    }
}
