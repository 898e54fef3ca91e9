/** Counts answers that are not as due, prints them, and ends the run with 1 if there was one. */
final class Check {
    private final String name;
    private int wrong;
    private int looked;

    Check(String name) {
        this.name = name;
    }

    void due(String call, long got, long want) {
        looked++;
        if (got != want) {
            wrong++;
            System.out.println(name + ": " + call + " answered " + got + ", due is " + want);
        }
    }

    void holds(String what, boolean isSo) {
        due(what, isSo ? 1 : 0, 1);
    }

    boolean isClean() {
        return wrong == 0;
    }

    void finish() {
        System.out.println(name + ": " + looked + " looked at, " + wrong + " wrong");
        if (wrong != 0) {
            System.exit(1);
        }
    }
}
