/** Counts what was as due and prints what was not. */
final class Checks {
    private final String name;
    private int passed = 0;
    private int failed = 0;

    Checks(String name) {
        this.name = name;
    }

    void same(String what, Object got, Object due) {
        if (String.valueOf(got).equals(String.valueOf(due))) {
            passed++;
        } else {
            failed++;
            System.out.println(what + " answered " + got + ", due is " + due);
        }
    }

    /** How many checks there were. */
    int count() {
        return passed + failed;
    }

    void holds(String what, boolean so) {
        same(what, so, true);
    }

    /** Ends the program with the exit code 1 if a check failed. */
    void close() {
        System.out.println(name + ": " + passed + " checks passed, " + failed + " failed");
        if (failed > 0) {
            System.exit(1);
        }
    }
}
