import java.util.Objects;

/** Counts the answers that are due and prints every one that is not. */
final class Check {
    private int passed = 0;
    private int failed = 0;
    private String about = "";

    void about(String what) {
        about = what;
    }

    void due(String call, long got, long want) {
        if (got == want) {
            passed++;
        } else {
            failed++;
            System.out.println(about + ": " + call + " answered " + got + ", due is " + want);
        }
    }

    void same(String what, Object got, Object want) {
        if (Objects.equals(got, want)) {
            passed++;
        } else {
            failed++;
            System.out.println(about + ": " + what + " is " + got + ", due is " + want);
        }
    }

    boolean hasFailed() {
        return failed > 0;
    }

    void end() {
        System.out.println(passed + " passed, " + failed + " failed");
        if (failed > 0) {
            System.exit(1);
        }
    }
}
