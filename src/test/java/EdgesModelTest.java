import java.lang.reflect.InvocationTargetException;
import java.lang.reflect.Method;
import java.lang.reflect.Modifier;
import java.util.ArrayList;
import java.util.Arrays;
import java.util.List;

/**
 * Every call of the face with every choice of arguments at and around the edges, on plants with
 * nothing, with something and with all that can be in them: the class and the model answer alike,
 * and nothing throws.
 */
public final class EdgesModelTest {
    private static final Check CHECK = new Check("EdgesModelTest");
    /** Both are made anew after so many calls, so that most meet the plant as it was set up. */
    private static final int CALLS_BEHIND_SETUP = 40;
    private static final Object[] INTS = {
        Integer.MIN_VALUE, -2, -1, 0, 1, 2, 3, 4, 5, 6, 7, 8, 59, 60, 61, 63, 64, 100, 101, 127, 128, Integer.MAX_VALUE
    };
    private static final Object[] FEW_INTS = {Integer.MIN_VALUE, -1, 0, 1, 2, 5, 6, Integer.MAX_VALUE};
    private static final Object[] LONGS = {Long.MIN_VALUE, -129L, -1L, 0L, 1L, 127L, 128L, 1L << 32, Long.MAX_VALUE};
    private static final Object[] BOOLEANS = {false, true};
    private static final int MANY_ARGUMENTS = 4;

    private static final String[] SETUPS = {
        "",
        "part 30;image;part 40;part 50;move 2 0;cause 5 6;see 7 true;event 1 1;book 3;feed 112;feed 53;tape 0 0 3;tape 1 3 2",
        "part 10;part 20;gate 0 2;join 0 true 0;join 0 true 1;cause 15 2;see 3 true;event 3 0;book 3;image;"
            + "part 30;gate 1 3;join 1 false 0;join 1 true 2;see 0 false;event 0 2;book 4;move 2 0;feed 97;"
            + "tape 0 0 2;item 0 0 4;item 0 1 3;tape 1 4 60;tape 2 2 5;item 2 4 9;tape 5 0 1;item 5 0 4",
        "part 0;part 100;part 50;part 7;part 99;part 1;gate 2 2;gate 0 0;gate 1 5;gate 2 3;gate 1 0;gate 0 1;gate 2 1;gate 2 2;"
            + "join 0 true 0;join 0 true 1;join 0 true 2;join 0 true 3;join 1 true 4;join 1 true 5;join 1 false 0;"
            + "join 7 false 0;join 7 false 1;join 7 true 5;join 7 true 3;join 6 false 5;cause 1 63;cause 99 3;cause 50 0;"
            + "see 0 false;see 63 true;see 1 false;see 48 true;see 8 false;see 11 true;event 0 0;event 1 5;event 2 7;"
            + "event 3 0;event 3 1;event 0 3;event 2 0;book 40;book 56;book 35;book 0;book 63;book 1;book 2;book 4;image;"
            + "move 5 0;top 7;tape 0 0 60;tape 1 1 60;tape 2 2 60;tape 3 3 60;tape 4 4 60;tape 5 2 2;item 2 59 7"
    };

    private final String[] setup;
    private FaultGraph x;
    private Model m;
    private int calls;

    private EdgesModelTest(String setup) {
        this.setup = setup.isEmpty() ? new String[0] : setup.split(";");
    }

    public static void main(String[] args) throws ReflectiveOperationException {
        for (int s = 0; s < SETUPS.length && CHECK.isClean(); s++) {
            EdgesModelTest test = new EdgesModelTest(SETUPS[s]);
            for (Method call : FaultGraph.class.getDeclaredMethods()) {
                if (Modifier.isPublic(call.getModifiers())) {
                    test.tryAll("plant " + s, call);
                }
            }
        }
        CHECK.finish();
    }

    private void makeAnew() throws ReflectiveOperationException {
        x = new FaultGraph();
        m = new Model();
        for (String line : setup) {
            String[] words = line.split(" ");
            Method call = byName(words[0]);
            Class<?>[] types = call.getParameterTypes();
            Object[] arguments = new Object[types.length];
            for (int i = 0; i < types.length; i++) {
                arguments[i] = argument(types[i], words[i + 1]);
            }
            compare("setting up", call, arguments);
        }
        calls = 0;
    }

    private static Method byName(String name) {
        for (Method call : FaultGraph.class.getDeclaredMethods()) {
            if (call.getName().equals(name)) {
                return call;
            }
        }
        throw new IllegalArgumentException(name);
    }

    private static Object argument(Class<?> type, String word) {
        if (type == boolean.class) {
            return Boolean.valueOf(word);
        }
        return type == long.class ? (Object) Long.valueOf(word) : Integer.valueOf(word);
    }

    private static Object[] choices(Class<?> type, boolean isFew) {
        if (type == boolean.class) {
            return BOOLEANS;
        }
        return type == long.class ? LONGS : isFew ? FEW_INTS : INTS;
    }

    private void tryAll(String name, Method call) throws ReflectiveOperationException {
        Class<?>[] types = call.getParameterTypes();
        List<Object[]> rows = new ArrayList<>();
        rows.add(new Object[types.length]);
        for (int i = 0; i < types.length; i++) {
            List<Object[]> longer = new ArrayList<>();
            for (Object[] row : rows) {
                for (Object choice : choices(types[i], types.length > MANY_ARGUMENTS)) {
                    Object[] copy = row.clone();
                    copy[i] = choice;
                    longer.add(copy);
                }
            }
            rows = longer;
        }
        makeAnew();
        for (Object[] row : rows) {
            if (calls >= CALLS_BEHIND_SETUP) {
                makeAnew();
            }
            compare(name, call, row);
        }
    }

    private void compare(String name, Method call, Object[] arguments) throws ReflectiveOperationException {
        calls++;
        String told = name + ": " + call.getName() + Arrays.toString(arguments);
        try {
            Method model = Model.class.getDeclaredMethod(call.getName(), call.getParameterTypes());
            long want = ((Number) model.invoke(m, arguments)).longValue();
            CHECK.due(told, ((Number) call.invoke(x, arguments)).longValue(), want);
        } catch (InvocationTargetException e) {
            CHECK.holds(told + " throws " + e.getCause(), false);
        }
    }
}
