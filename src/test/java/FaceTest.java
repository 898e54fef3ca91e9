import java.io.IOException;
import java.lang.reflect.Constructor;
import java.lang.reflect.Field;
import java.lang.reflect.Method;
import java.lang.reflect.Modifier;
import java.nio.file.Files;
import java.nio.file.Path;
import java.util.ArrayList;
import java.util.Arrays;
import java.util.List;
import java.util.TreeSet;
import java.util.regex.Pattern;

/** The public face and the rules of LANGUAGE.md that can be seen without running a call. */
public final class FaceTest {
    private static final Check CHECK = new Check("FaceTest");
    private static final Path SOURCE = Path.of("src/main/java/FaultGraph.java");
    private static final List<String> FACE = List.of(
        "int part(int)", "int gate(int,int)", "int turn(int,int,int)", "int join(int,boolean,int)",
        "int drop(int)", "int top(int)", "int cause(int,int)", "int odds(int,int,int)",
        "int of(int,int,int)", "int feed(int)", "int read()", "int fails(int,int)",
        "int move(int,int)", "int sift(int)", "int at(int)", "int node(int,int)", "int told(int)",
        "int cut(int)", "int path(int)", "long chance(int)", "long given(int,boolean,int)",
        "long weight(int,int)", "int see(int,boolean)", "int fits(int,int)", "long mean(int)",
        "int event(int,int)", "int after(int)", "int book(int)", "int looked()",
        "int judge(int,int)", "int image()", "int undo()", "int count(int)",
        "int tape(int,int,int)", "int item(int,int,long)", "long peek(int,int)",
        "int shift(int,int,int,int,int)");

    public static void main(String[] args) throws IOException {
        methods();
        fields();
        classes();
        words();
        CHECK.finish();
    }

    private static String faceOf(Method m) {
        List<String> types = new ArrayList<>();
        for (Class<?> type : m.getParameterTypes()) {
            types.add(type.getSimpleName());
        }
        return m.getReturnType().getSimpleName() + " " + m.getName() + "(" + String.join(",", types) + ")";
    }

    private static void methods() {
        TreeSet<String> found = new TreeSet<>();
        TreeSet<String> publicNames = new TreeSet<>();
        for (Method m : FaultGraph.class.getDeclaredMethods()) {
            if (Modifier.isPublic(m.getModifiers())) {
                found.add(faceOf(m));
                publicNames.add(m.getName());
            }
        }
        CHECK.holds("the face's methods: " + found, found.equals(new TreeSet<>(FACE)));
        List<Class<?>> all = new ArrayList<>(Arrays.asList(FaultGraph.class.getDeclaredClasses()));
        all.add(FaultGraph.class);
        for (Class<?> type : all) {
            for (Method m : type.getDeclaredMethods()) {
                boolean isFace = type == FaultGraph.class && Modifier.isPublic(m.getModifiers());
                CHECK.holds(type + " " + m.getName() + " is a name of its own", isFace || !publicNames.contains(m.getName()));
                CHECK.holds(m + " takes at most seven", m.getParameterCount() <= 7);
                CHECK.holds(m + " is private or public", type != FaultGraph.class || isFace || Modifier.isPrivate(m.getModifiers()));
            }
        }
        Constructor<?>[] made = FaultGraph.class.getDeclaredConstructors();
        CHECK.holds("one constructor", made.length == 1 && Modifier.isPublic(made[0].getModifiers()) && made[0].getParameterCount() == 0);
        CHECK.holds("public and final", Modifier.isPublic(FaultGraph.class.getModifiers()) && Modifier.isFinal(FaultGraph.class.getModifiers()));
    }

    private static void fields() {
        TreeSet<String> found = new TreeSet<>();
        for (Field f : FaultGraph.class.getDeclaredFields()) {
            int mods = f.getModifiers();
            if (Modifier.isPublic(mods)) {
                found.add(f.getType() + " " + f.getName());
                CHECK.holds(f + " is a constant", Modifier.isStatic(mods) && Modifier.isFinal(mods));
            } else {
                CHECK.holds(f + " is private", Modifier.isPrivate(mods));
            }
        }
        CHECK.holds("the face's constants: " + found, found.equals(new TreeSet<>(List.of(
            "int NONE", "int BAD", "int STATE", "int FULL", "int NEVER", "int EVER", "long NO"))));
        CHECK.due("NONE", FaultGraph.NONE, -1);
        CHECK.due("BAD", FaultGraph.BAD, -2);
        CHECK.due("STATE", FaultGraph.STATE, -3);
        CHECK.due("FULL", FaultGraph.FULL, -4);
        CHECK.due("NEVER", FaultGraph.NEVER, -6);
        CHECK.due("EVER", FaultGraph.EVER, -7);
        CHECK.due("NO", FaultGraph.NO, Long.MIN_VALUE);
    }

    private static void classes() {
        Class<?>[] inside = FaultGraph.class.getDeclaredClasses();
        CHECK.holds("at most some twelve classes", inside.length <= 11);
        for (Class<?> type : inside) {
            CHECK.holds(type + " is static", Modifier.isStatic(type.getModifiers()));
            CHECK.holds(type + " isn't public", !Modifier.isPublic(type.getModifiers()) && !Modifier.isProtected(type.getModifiers()));
            int fields = 0;
            for (Field f : type.getDeclaredFields()) {
                if (!Modifier.isStatic(f.getModifiers())) {
                    fields++;
                } else {
                    CHECK.holds(f + " is final", Modifier.isFinal(f.getModifiers()));
                }
            }
            CHECK.holds(type + " has some twenty fields", fields <= 20);
        }
    }

    private static void words() throws IOException {
        String code = Files.readString(SOURCE)
            .replaceAll("(?s)/\\*.*?\\*/", " ").replaceAll("//[^\n]*", " ");
        for (String word : List.of("throw", "throws", "try", "catch", "synchronized", "assert",
            "import", "package", "volatile", "native", "var", "protected", "Object", "Thread")) {
            CHECK.holds("no " + word, !Pattern.compile("\\b" + word + "\\b").matcher(code).find());
        }
        CHECK.holds("no lambda", !code.contains("->"));
        CHECK.holds("no method reference", !code.contains("::"));
        CHECK.holds("no name that ends in Exact", !Pattern.compile("Exact\\s*\\(").matcher(code).find());
        CHECK.holds("no text", !code.contains("\""));
        CHECK.holds("no static block", !Pattern.compile("static\\s*\\{").matcher(code).find());
        // rows are made with their object: what a call makes would fill the room of a long run
        for (String line : code.split("\n")) {
            boolean isField = line.contains("final ") || line.contains("tapes[i] = new Tape();")
                || line.contains("firsts = new int[length];") || line.contains("seconds = new int[length];");
            CHECK.holds("made in a constructor: " + line.trim(), !line.contains("new ") || isField);
        }
    }
}
