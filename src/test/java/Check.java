import java.util.function.IntSupplier;

/** Counts what is as due and tells what is not. */
final class Check {
    private int passed;
    private int failed;
    private String topic = "";

    /** What all answers are about from here on; it is told with those that are not due. */
    void tellOf(String words) {
        topic = words;
    }

    int made() {
        return passed + failed;
    }

    void due(String what, long got, long want) {
        if (got == want) {
            passed++;
            return;
        }
        failed++;
        if (failed <= 40) {
            System.out.println(topic + what + " answered " + got + ", due is " + want);
        }
    }

    void holds(String what, boolean isSo) {
        due(what, isSo ? 1 : 0, 1);
    }

    /** A call that must not throw, whatever its arguments are. */
    int quietly(String what, IntSupplier call) {
        try {
            return call.getAsInt();
        } catch (RuntimeException | Error thrown) {
            holds(what + " threw " + thrown, false);
            return Integer.MIN_VALUE;
        }
    }

    boolean hasFailed() {
        return failed > 0;
    }

    void close(String name) {
        System.out.println(name + ": " + passed + " passed, " + failed + " failed");
        if (failed > 0) {
            System.exit(1);
        }
    }
}
