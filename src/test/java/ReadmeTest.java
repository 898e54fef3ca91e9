import java.io.IOException;
import java.lang.reflect.Field;
import java.lang.reflect.InvocationTargetException;
import java.lang.reflect.Method;
import java.lang.reflect.Modifier;
import java.nio.file.Files;
import java.nio.file.Path;
import java.util.ArrayList;
import java.util.List;
import java.util.regex.Matcher;
import java.util.regex.Pattern;

/** README.md says how to use the class: what it shows is run, and it leaves no call out. */
public final class ReadmeTest {
    private static final Check CHECK = new Check("ReadmeTest");
    private static final Path README = Path.of("README.md");
    private static final Pattern CALL = Pattern.compile("plant\\.(\\w+)\\(([^()]*)\\);\\s*// (-?\\d+)(?::.*)?");
    private static final Pattern FEED = Pattern.compile("for \\(char sign : \"([^\"]*)\"\\.toCharArray\\(\\)\\) plant\\.feed\\(sign\\);");
    private static final String NEW = "FaultGraph plant = new FaultGraph();";

    public static void main(String[] args) throws IOException, ReflectiveOperationException {
        String page = Files.readString(README);
        examples(page);
        calls(page);
        constants(page);
        CHECK.holds("for how many calls an object is promised", page.contains("512 calls"));
        for (int refusal = -14; refusal <= -11; refusal++) {
            CHECK.holds("the host's refusal " + refusal, page.contains("| " + refusal + " |"));
        }
        everyTestIsNamed(page);
        CHECK.finish();
    }

    /** Every line of a Java block is one of three sorts; another one could not be held to its word. */
    private static void examples(String page) throws ReflectiveOperationException {
        int blocks = 0;
        Matcher block = Pattern.compile("(?s)```java\n(.*?)```").matcher(page);
        while (block.find()) {
            blocks++;
            FaultGraph plant = null;
            for (String line : block.group(1).split("\n")) {
                if (line.equals(NEW)) {
                    plant = new FaultGraph();
                } else {
                    CHECK.holds("begins with a new object: " + line, plant != null);
                    run(plant, line);
                }
            }
        }
        CHECK.due("examples", blocks, 3);
    }

    private static void run(FaultGraph plant, String line) throws ReflectiveOperationException {
        Matcher feed = FEED.matcher(line);
        Matcher call = CALL.matcher(line);
        if (feed.matches()) {
            for (char sign : feed.group(1).toCharArray()) {
                plant.feed(sign);
            }
        } else if (call.matches()) {
            CHECK.due("README: " + line.trim(), answer(plant, call.group(1), call.group(2)), Long.parseLong(call.group(3)));
        } else {
            CHECK.holds("can be run: " + line, false);
        }
    }

    private static long answer(FaultGraph plant, String name, String words) throws IllegalAccessException, InvocationTargetException {
        String[] given = words.isEmpty() ? new String[0] : words.split(", ");
        for (Method m : FaultGraph.class.getMethods()) {
            Class<?>[] types = m.getParameterTypes();
            if (m.getDeclaringClass() == FaultGraph.class && m.getName().equals(name) && types.length == given.length) {
                Object[] values = new Object[given.length];
                for (int i = 0; i < given.length; i++) {
                    values[i] = valueOf(types[i], given[i]);
                }
                return ((Number) m.invoke(plant, values)).longValue();
            }
        }
        CHECK.holds("a call of the class: " + name, false);
        return 0;
    }

    private static Object valueOf(Class<?> type, String word) {
        if (type == boolean.class) {
            return Boolean.valueOf(word);
        }
        return type == long.class ? (Object) Long.valueOf(word) : (Object) Integer.valueOf(word);
    }

    /** The first cell of a row of the tables has the call with its parameters. */
    private static void calls(String page) {
        List<String> shown = new ArrayList<>();
        Matcher row = Pattern.compile("(?m)^\\| (`\\w+\\([^|]*) \\|").matcher(page);
        while (row.find()) {
            for (String call : row.group(1).split("`(?:, )?")) {
                if (!call.isEmpty()) {
                    shown.add(call);
                }
            }
        }
        int many = 0;
        for (Method m : FaultGraph.class.getDeclaredMethods()) {
            if (Modifier.isPublic(m.getModifiers())) {
                many++;
                CHECK.due(m.getName() + " stands in the tables with its parameters", timesShown(shown, m), 1);
            }
        }
        CHECK.due("calls in the tables", shown.size(), many);
    }

    private static int timesShown(List<String> shown, Method m) {
        int times = 0;
        for (String call : shown) {
            String words = call.substring(call.indexOf('(') + 1, call.length() - 1);
            int parameters = words.isEmpty() ? 0 : words.split(", ").length;
            if (call.startsWith(m.getName() + "(") && parameters == m.getParameterCount()) {
                times++;
            }
        }
        return times;
    }

    private static void constants(String page) throws IllegalAccessException {
        for (Field f : FaultGraph.class.getFields()) {
            String name = "`" + f.getName() + "`";
            long value = f.getType() == int.class ? f.getInt(null) : f.getLong(null);
            String number = value == Long.MIN_VALUE ? "least long" : Long.toString(value);
            boolean isTold = page.contains("| " + number + " | " + name) || page.contains(name + " (" + number + ")");
            CHECK.holds("constant " + name + " with its number", isTold);
        }
    }

    private static void everyTestIsNamed(String page) throws IOException {
        try (var files = Files.list(Path.of("src/test/java"))) {
            for (Path file : (Iterable<Path>) files::iterator) {
                String name = file.getFileName().toString().replace(".java", "");
                CHECK.holds("the page names " + name, !name.endsWith("Test") || page.contains("`" + name + "`"));
            }
        }
    }
}
