/** Numbers in the bits of a balance's sort, so that one test serves several sorts. */
final class Numbers {
    static final double INFINITE = Double.POSITIVE_INFINITY;

    /** A balance of each sort, of the whole ones, and of FLOATS and DOUBLES. */
    static final int[] EACH = {0, 4, 8, 12};
    static final int[] WHOLE = {0, 4};
    static final int[] POINTS = {8, 12};

    static final int[] NO_BALANCE = {-1, 16, 17, Integer.MIN_VALUE, Integer.MAX_VALUE};

    private Numbers() {
    }

    static long of(int g, double x) {
        switch (g / 4) {
            case 0: case 1:
                return (long) x;
            case 2:
                return Checks.bits((float) x);
            default:
                return Checks.bits(x);
        }
    }

    static long leastWhole(int g) {
        return g < 4 ? Integer.MIN_VALUE : Long.MIN_VALUE;
    }

    static long greatestWhole(int g) {
        return g < 4 ? Integer.MAX_VALUE : Long.MAX_VALUE;
    }

    static long greatestFinite(int g) {
        return of(g, INFINITE) - 1;
    }

    static long leastFinite(int g) {
        return of(g, -INFINITE) - 1;
    }

    /** So many of the least one that is not 0. */
    static long tiny(int g, int many) {
        return many >= 0 ? many : of(g, -0.0) - many;
    }

    static long leastNormal(int g) {
        return of(g, g < 12 ? Float.MIN_NORMAL : Double.MIN_NORMAL);
    }

    /** How many bits a number of the sort has, with the hidden one. */
    static int precision(int g) {
        return g < 12 ? 24 : 53;
    }

    static long power(int g, int exponent) {
        return of(g, Math.scalb(1.0, exponent));
    }

    static boolean isNumber(int g, long bits) {
        return !Double.isNaN(Model.number(g / 4, bits).doubleValue());
    }
}
