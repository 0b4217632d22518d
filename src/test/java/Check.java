/** Counts the answers that are due and those that are not; prints the latter. */
final class Check {
    private final String name;
    private int passed;
    private int failed;

    Check(String name) {
        this.name = name;
    }

    void due(String call, Object got, Object want) {
        if (want.equals(got)) {
            passed++;
        } else {
            failed++;
            System.out.println(name + ": " + call + " answered " + got + ", due is " + want);
        }
    }

    boolean holds() {
        return failed == 0 && passed > 0;
    }

    /** Ends the test with exit code 1 if an answer was not the one that is due. */
    void end() {
        System.out.println(name + ": " + passed + " passed, " + failed + " failed");
        if (!holds()) {
            System.exit(1);
        }
    }
}
