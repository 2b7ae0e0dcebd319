/** Counts checks; prints only those that failed. */
final class Tally {
    private int passed;
    private int failed;

    void due(String call, long got, long want) {
        that(call + " answered " + got + ", due is " + want, got == want);
    }

    void that(String what, boolean holds) {
        if (holds) {
            passed++;
            return;
        }
        failed++;
        if (failed <= 40) {
            System.out.println("FAILED: " + what);
        }
    }

    boolean close(String name) {
        System.out.println(name + ": " + passed + " passed, " + failed + " failed");
        return failed == 0 && passed > 0;
    }
}
