/** Seeds for simulate() whose turns are wanted ones, found by going backward from the turn to the seed. */
public final class TurnSeeds {
    private static final long TIMES = 6364136223846793005L;
    private static final long PLUS = 1442695040888963407L;

    /** Tells whether a turn is wanted. */
    public interface Turn {
        boolean is(int kind, int q);
    }

    private TurnSeeds() {
    }

    /** The seed whose first turn has r = 16 * q + kind. */
    public static long of(int kind, int q) {
        return before((16L * q + kind) << 33);
    }

    /** A seed whose first turn has r = 16 * q + kind, and whose second one is wanted. */
    public static long of(int kind, int q, Turn second) {
        for (long low = 0; low < 1L << 33; low++) {
            long x = ((16L * q + kind) << 33) + low;
            int r = (int) ((x * TIMES + PLUS) >>> 33);
            if (second.is(r % 16, r / 16)) {
                return before(x);
            }
        }
        throw new IllegalArgumentException("no such turn");
    }

    private static long before(long x) {
        return (x - PLUS) * inverse();
    }

    /** Each step doubles the number of the lowest bits that are right; the first 3 are so at once. */
    private static long inverse() {
        long inverse = TIMES;
        for (int i = 0; i < 6; i++) {
            inverse *= 2 - TIMES * inverse;
        }
        return inverse;
    }
}
