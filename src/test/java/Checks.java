import java.util.Objects;

/** Counts the checks of one test, prints those that go wrong, and ends the test with its exit code. */
final class Checks {
    private static final int MAX_PRINTED = 40;

    private final String test;
    private int made;
    private int wrong;

    Checks(String test) {
        this.test = test;
    }

    /** Compares an answer with the one that is due; true if they are the same. */
    boolean same(String what, Object due, Object got) {
        made++;
        if (Objects.equals(due, got)) {
            return true;
        }
        wrong++;
        if (wrong <= MAX_PRINTED) {
            System.out.println(test + ": " + what + " answered " + got + ", due is " + due);
        }
        return false;
    }

    void end() {
        System.out.println(test + ": " + made + " checks, " + wrong + " wrong");
        if (wrong != 0 || made == 0) {
            System.exit(1);
        }
    }
}
