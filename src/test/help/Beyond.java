import java.util.stream.IntStream;

/** Calls with numbers that are beyond what there is. */
final class Beyond {
    /** A call of which one argument is left open. */
    interface Call {
        long with(int number);
    }

    private static final int[] BELOW = {-1, -2, -20, -31, -32, -64, -256, Integer.MIN_VALUE + 1, Integer.MIN_VALUE};
    // Among these are some that would be small again if bits were lost or a shift went round.
    private static final int[] ABOVE = {1, 2, 3, 4, 5, 20, 31, 32, 33, 63, 64, 255, 256, 65536, 1 << 30,
        Integer.MAX_VALUE - 1, Integer.MAX_VALUE};

    private Beyond() {
    }

    /** n, and numbers above it. */
    private static int[] from(int n) {
        return IntStream.concat(IntStream.of(n), IntStream.of(ABOVE).filter(v -> v > n)).toArray();
    }

    static void dueBelow(String call, Call open, long want) {
        for (int number : BELOW) {
            Checks.due(call + " with " + number, open.with(number), want);
        }
    }

    static void dueFrom(String call, int n, Call open, long want) {
        for (int number : from(n)) {
            Checks.due(call + " with " + number, open.with(number), want);
        }
    }

    /** For a number that is none of 0 .. n - 1. */
    static void dueBoth(String call, int n, Call open, long want) {
        dueBelow(call, open, want);
        dueFrom(call, n, open, want);
    }
}
