import java.util.Objects;

/** Prints every answer that is not as due; a test's main method ends with end(). */
final class Check {
    private final String name;
    private int looked;
    private int wrong;

    Check(String name) {
        this.name = name;
    }

    void due(String what, long got, long want) {
        looked++;
        if (got != want) tell(what + " answered " + got + ", due is " + want);
    }

    void holds(String what, boolean is) {
        looked++;
        if (!is) tell(what + " does not hold");
    }

    void same(String what, Object got, Object want) {
        looked++;
        if (!Objects.equals(got, want)) tell(what + " is " + got + ", due is " + want);
    }

    void refuses(String what, Class<? extends RuntimeException> want, Runnable call) {
        looked++;
        try {
            call.run();
        } catch (RuntimeException e) {
            if (e.getClass() != want) tell(what + " threw " + e + ", due is " + want.getSimpleName());
            return;
        }
        tell(what + " threw nothing, due is " + want.getSimpleName());
    }

    void end() {
        System.out.println(name + ": " + looked + " looked at, " + wrong + " wrong");
        if (wrong != 0 || looked == 0) System.exit(1);
    }

    private void tell(String text) {
        wrong++;
        System.out.println(name + ": " + text);
    }
}
