/** Counts answers that are as due, and tells those that are not. */
final class Check {
    private final String name;
    private int passed;
    private int failed;

    Check(String name) {
        this.name = name;
    }

    void due(String call, long got, long want) {
        that(call + " answered " + got + ", due is " + want, got == want);
    }

    void that(String fault, boolean holds) {
        if (holds) {
            passed++;
        } else {
            failed++;
            if (failed <= 50) {
                System.out.println(name + ": " + fault);
            }
        }
    }

    void finish() {
        System.out.println(name + ": " + passed + " passed, " + failed + " failed");
        if (failed != 0) {
            System.exit(1);
        }
    }
}
