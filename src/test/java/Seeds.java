/** Finds seeds for simulations. */
final class Seeds {
    private static final long FACTOR = 6364136223846793005L;
    private static final long SUMMAND = 1442695040888963407L;

    private Seeds() {
    }

    /** A seed from which the first turn computes r. */
    static long of(int r) {
        return of(r, 0);
    }

    /** The one of them of which x has these lowest 33 bits. */
    static long of(int r, int low) {
        long inverse = FACTOR;
        for (int i = 0; i < 6; i++) {
            inverse *= 2 - FACTOR * inverse;
        }
        return (((long) r << 33 | low) - SUMMAND) * inverse;
    }
}
