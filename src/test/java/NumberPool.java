import java.util.Random;

/** Numbers near all the edges, and any others. */
final class NumberPool {
    private static final long[] WHOLE = {0, 1, -1, 2, -2, 7, 1023, 1024, 1025, -1023, -1024, -1025, Integer.MAX_VALUE,
        Integer.MIN_VALUE, Integer.MIN_VALUE + 1L, Integer.MAX_VALUE + 1L, 0xffffffffL, Long.MAX_VALUE,
        Long.MIN_VALUE, Long.MIN_VALUE + 1, Long.MAX_VALUE / 2, Long.MIN_VALUE / 2, 0x80000000L << 3};

    private static final float[] FLOATS = {0f, 0.5f, 1f, 1.5f, 2f, 2.5f, 3.5f, 0.25f, 0.75f, 1023.5f, 4194303.5f,
        4194304.5f, 8388607.5f, 8388608f, 8388609f, 16777215f, 16777216f, 1e10f, Float.MAX_VALUE,
        Float.POSITIVE_INFINITY, Float.MIN_NORMAL, Float.MIN_VALUE, 3 * Float.MIN_VALUE, 1e-40f, 0.1f, 1e38f};

    private static final double[] DOUBLES = {0.0, 0.5, 1.0, 1.5, 2.0, 2.5, 3.5, 0.25, 0.75, 1023.5,
        2251799813685247.5, 2251799813685248.5, 4503599627370495.5, 4503599627370496.0, 4503599627370497.0,
        9007199254740991.0, 9007199254740992.0, 1e17, Double.MAX_VALUE, Double.POSITIVE_INFINITY, Double.MIN_NORMAL,
        Double.MIN_VALUE, 3 * Double.MIN_VALUE, 1e-310, 0.1, 1e308};

    private NumberPool() {
    }

    static long wholeBits(Random random) {
        switch (random.nextInt(4)) {
            case 0:
                return WHOLE[random.nextInt(WHOLE.length)];
            case 1:
                return random.nextLong();
            case 2:
                return random.nextInt();
            default:
                return random.nextInt(41) - 20;
        }
    }

    /** Now and then not a number. */
    static long floatBits(Random random) {
        float sign = random.nextBoolean() ? 1 : -1;
        switch (random.nextInt(5)) {
            case 0:
                return Checks.bits(sign * FLOATS[random.nextInt(FLOATS.length)]);
            case 1:
                return random.nextInt();
            case 2:
                return Checks.bits(sign * FLOATS[random.nextInt(FLOATS.length)]) + random.nextInt(5) - 2;
            case 3:
                return Checks.bits(sign * random.nextInt(4096) / 64);
            default:
                // Of like exponents, so that sums have bits to be rounded.
                return Checks.bits(sign * random.nextFloat() * (1 << random.nextInt(28)));
        }
    }

    /** Now and then not a number. */
    static long doubleBits(Random random) {
        double sign = random.nextBoolean() ? 1 : -1;
        switch (random.nextInt(5)) {
            case 0:
                return Checks.bits(sign * DOUBLES[random.nextInt(DOUBLES.length)]);
            case 1:
                return random.nextLong();
            case 2:
                return Checks.bits(sign * DOUBLES[random.nextInt(DOUBLES.length)]) + random.nextInt(5) - 2;
            case 3:
                return Checks.bits(sign * random.nextInt(4096) / 64);
            default:
                return Checks.bits(sign * random.nextDouble() * (1L << random.nextInt(58)));
        }
    }
}
