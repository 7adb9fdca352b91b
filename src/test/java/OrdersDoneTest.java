/** The single ORDERS of "Terms", on which promises 5 and 6 rest, with answers written out. */
public final class OrdersDoneTest {
    private static final int IMIN = Integer.MIN_VALUE;
    private static final int IMAX = Integer.MAX_VALUE;
    private static final long LMIN = Long.MIN_VALUE;
    private static final long LMAX = Long.MAX_VALUE;
    private static final double INFINITE = Double.POSITIVE_INFINITY;

    private static final Checks CHECKS = new Checks();

    public static void main(String[] args) {
        wholeOnesAlone();
        wholeOnesAgainst();
        wholeSteps();
        pointsToWholeOnes();
        pointsAlone();
        pointsAgainst();
        pointSteps();
        held();
        CHECKS.end();
    }

    private static void ints(int code, int v, int want) {
        CHECKS.dueOrder(0, v, code, 0, 0, want);
    }

    private static void longs(int code, long v, long want) {
        CHECKS.dueOrder(4, v, code, 0, 0, want);
    }

    private static void ints(int code, int v, int w, int want) {
        CHECKS.dueOrder(0, v, code, 1, w, want);
    }

    private static void longs(int code, long v, long w, long want) {
        CHECKS.dueOrder(4, v, code, 5, w, want);
    }

    /** Of numbers that are FLOATS as well. */
    private static void points(int code, double v, double want) {
        CHECKS.dueOrder(8, Checks.bits((float) v), code, 0, 0, Checks.bits((float) want));
        doubles(code, v, want);
    }

    private static void doubles(int code, double v, double want) {
        CHECKS.dueOrder(12, Checks.bits(v), code, 0, 0, Checks.bits(want));
    }

    private static void points(int code, double v, double w, double want) {
        CHECKS.dueOrder(8, Checks.bits((float) v), code, 9, Checks.bits((float) w), Checks.bits((float) want));
        CHECKS.dueOrder(12, Checks.bits(v), code, 13, Checks.bits(w), Checks.bits(want));
    }

    private static void wholeOnesAlone() {
        int[] itself = {Checks.DOWN, Checks.UP, Checks.NEAR};
        for (int code : itself) {
            ints(code, -7, -7);
            ints(code, IMIN, IMIN);
            longs(code, 7, 7);
            longs(code, LMIN, LMIN);
        }
        ints(Checks.SIZE, -7, 7);
        ints(Checks.SIZE, IMAX, IMAX);
        ints(Checks.SIZE, IMIN, IMIN);
        longs(Checks.SIZE, IMIN, 2147483648L);
        longs(Checks.SIZE, LMIN, LMIN);
        ints(Checks.SIGN, 7, 1);
        ints(Checks.SIGN, 0, 0);
        ints(Checks.SIGN, IMIN, -1);
        longs(Checks.SIGN, LMAX, 1);
        longs(Checks.SIGN, LMIN, -1);
        longs(Checks.SIGN, 0, 0);
        ints(Checks.TURN, 7, -7);
        ints(Checks.TURN, 0, 0);
        ints(Checks.TURN, IMIN, IMIN);
        longs(Checks.TURN, LMIN, LMIN);
        longs(Checks.TURN, LMAX, -LMAX);
        ints(Checks.PART, -7, 0);
        longs(Checks.PART, LMIN, 0);
    }

    private static void wholeOnesAgainst() {
        ints(Checks.LIKE, 7, -1, -7);
        ints(Checks.LIKE, -7, 0, 7);
        ints(Checks.LIKE, -7, 3, 7);
        ints(Checks.LIKE, -7, -3, -7);
        ints(Checks.LIKE, IMIN, 1, IMIN);
        ints(Checks.LIKE, IMIN, -1, IMIN);
        longs(Checks.LIKE, 7, -1, -7);
        longs(Checks.LIKE, LMIN, -1, LMIN);
        longs(Checks.LIKE, LMIN, 1, LMIN);
        ints(Checks.MORE, -7, 3, 3);
        ints(Checks.LESS, -7, 3, -7);
        longs(Checks.MORE, LMIN, LMAX, LMAX);
        longs(Checks.LESS, LMIN, LMAX, LMIN);
        ints(Checks.MEET, 3, 4, 3);
        ints(Checks.MEET, -3, -4, -4);
        ints(Checks.MEET, -1, 0, -1);
        ints(Checks.MEET, IMAX, 1, IMIN / 2);
        ints(Checks.MEET, IMIN, -1, IMAX / 2);
        ints(Checks.MEET, IMIN, IMIN, 0);
        longs(Checks.MEET, 3, 4, 3);
        longs(Checks.MEET, -3, -4, -4);
        longs(Checks.MEET, IMAX, 1, 1L << 30);
        longs(Checks.MEET, LMAX, 1, LMIN / 2);
        longs(Checks.MEET, LMIN, -1, LMAX / 2);
    }

    private static void wholeSteps() {
        for (int k = 0; k <= 10; k++) {
            CHECKS.dueOrder(0, -7, Checks.STEP, k, 0, -7);
            CHECKS.dueOrder(4, LMAX, Checks.STEP, k, 0, LMAX);
        }
        CHECKS.dueOrder(0, 7, Checks.STEP, 11, 0, 6);
        CHECKS.dueOrder(0, -7, Checks.STEP, 11, 0, -8);
        CHECKS.dueOrder(0, -8, Checks.STEP, 13, 0, -8);
        CHECKS.dueOrder(0, -9, Checks.STEP, 13, 0, -16);
        CHECKS.dueOrder(0, 1023, Checks.STEP, 20, 0, 0);
        CHECKS.dueOrder(0, 1024, Checks.STEP, 20, 0, 1024);
        CHECKS.dueOrder(0, -1, Checks.STEP, 20, 0, -1024);
        CHECKS.dueOrder(0, IMIN, Checks.STEP, 20, 0, IMIN);
        CHECKS.dueOrder(0, IMAX, Checks.STEP, 20, 0, IMAX - 1023);
        CHECKS.dueOrder(4, LMIN + 5, Checks.STEP, 20, 0, LMIN);
        CHECKS.dueOrder(4, LMAX, Checks.STEP, 12, 0, LMAX - 3);
    }

    private static void pointsToWholeOnes() {
        double[] numbers = {0.0, -0.0, 0.5, -0.5, 0.75, -0.75, 1.0, -1.0, 1.5, -1.5, 2.5, -2.5, 1.75, 3.5, -3.5,
            INFINITE, -INFINITE, 4194303.5, 8388607.5f, 8388609, -4194304.5};
        double[] downs = {0.0, -0.0, 0.0, -1, 0.0, -1, 1, -1, 1, -2, 2, -3, 1, 3, -4,
            INFINITE, -INFINITE, 4194303, 8388607, 8388609, -4194305};
        double[] ups = {0.0, -0.0, 1, -0.0, 1, -0.0, 1, -1, 2, -1, 3, -2, 2, 4, -3,
            INFINITE, -INFINITE, 4194304, 8388608, 8388609, -4194304};
        double[] nears = {0.0, -0.0, 0.0, -0.0, 1, -1, 1, -1, 2, -2, 2, -2, 2, 4, -4,
            INFINITE, -INFINITE, 4194304, 8388608, 8388609, -4194304};
        for (int i = 0; i < numbers.length; i++) {
            points(Checks.DOWN, numbers[i], downs[i]);
            points(Checks.UP, numbers[i], ups[i]);
            points(Checks.NEAR, numbers[i], nears[i]);
        }
        CHECKS.dueOrder(8, 1, Checks.UP, 0, 0, Checks.bits(1f));
        CHECKS.dueOrder(8, 1, Checks.DOWN, 0, 0, 0);
        CHECKS.dueOrder(8, IMIN + 1, Checks.DOWN, 0, 0, Checks.bits(-1f));
        CHECKS.dueOrder(8, IMIN + 1, Checks.UP, 0, 0, Checks.bits(-0f));
        doubles(Checks.NEAR, Math.nextUp(0.5), 1);
        doubles(Checks.NEAR, Math.nextDown(0.5), 0);
        doubles(Checks.NEAR, Math.nextDown(2.5), 2);
        doubles(Checks.NEAR, Math.nextUp(2.5), 3);
        doubles(Checks.NEAR, 4503599627370495.5, 4503599627370496.0);
        doubles(Checks.NEAR, 4503599627370494.5, 4503599627370494.0);
        doubles(Checks.DOWN, 4503599627370495.5, 4503599627370495.0);
        doubles(Checks.UP, 4503599627370495.5, 4503599627370496.0);
        doubles(Checks.UP, 9007199254740991.0, 9007199254740991.0);
        doubles(Checks.DOWN, -Double.MAX_VALUE, -Double.MAX_VALUE);
        doubles(Checks.DOWN, -Double.MIN_VALUE, -1);
        doubles(Checks.UP, Double.MIN_VALUE, 1);
    }

    private static void pointsAlone() {
        points(Checks.SIZE, -0.0, 0.0);
        points(Checks.SIZE, -2.5, 2.5);
        points(Checks.SIZE, -INFINITE, INFINITE);
        points(Checks.SIGN, 0.0, 0.0);
        points(Checks.SIGN, -0.0, -0.0);
        points(Checks.SIGN, 0.25, 1);
        points(Checks.SIGN, -0.25, -1);
        points(Checks.SIGN, -INFINITE, -1);
        doubles(Checks.SIGN, Double.MIN_VALUE, 1);
        points(Checks.TURN, 0.0, -0.0);
        points(Checks.TURN, -0.0, 0.0);
        points(Checks.TURN, INFINITE, -INFINITE);
        points(Checks.TURN, -2.5, 2.5);
        points(Checks.PART, 2.75, 0.75);
        points(Checks.PART, -2.75, 0.25);
        points(Checks.PART, 2, 0.0);
        points(Checks.PART, -2, 0.0);
        points(Checks.PART, 0.0, 0.0);
        points(Checks.PART, -0.0, 0.0);
        points(Checks.PART, INFINITE, 0.0);
        points(Checks.PART, -INFINITE, -0.0);
        doubles(Checks.PART, -Double.MIN_VALUE, 1);
        doubles(Checks.PART, Double.MIN_VALUE, Double.MIN_VALUE);
        CHECKS.dueOrder(8, IMIN + 1, Checks.PART, 0, 0, Checks.bits(1f));
    }

    private static void pointsAgainst() {
        points(Checks.LIKE, 2.5, -0.0, -2.5);
        points(Checks.LIKE, -2.5, 0.0, 2.5);
        points(Checks.LIKE, 0.0, -INFINITE, -0.0);
        points(Checks.LIKE, -INFINITE, -1, -INFINITE);
        points(Checks.MORE, -0.0, 0.0, 0.0);
        points(Checks.MORE, 0.0, -0.0, 0.0);
        points(Checks.LESS, -0.0, 0.0, -0.0);
        points(Checks.LESS, 0.0, -0.0, -0.0);
        points(Checks.MORE, -1.5, -1.25, -1.25);
        points(Checks.LESS, -1.5, -1.25, -1.5);
        points(Checks.MORE, -INFINITE, INFINITE, INFINITE);
        points(Checks.LESS, -INFINITE, -2, -INFINITE);
        points(Checks.MEET, 1, 2, 1.5);
        points(Checks.MEET, -1, 1, 0.0);
        points(Checks.MEET, -0.0, -0.0, -0.0);
        points(Checks.MEET, -0.0, 0.0, 0.0);
        points(Checks.MEET, INFINITE, INFINITE, INFINITE);
        points(Checks.MEET, -INFINITE, 5, -INFINITE);
        points(Checks.MEET, 5, INFINITE, INFINITE);
        long most = Checks.bits(Float.MAX_VALUE);
        CHECKS.dueOrder(8, most, Checks.MEET, 9, most, Checks.bits(Float.POSITIVE_INFINITY));
        CHECKS.dueOrder(12, Checks.bits(Double.MAX_VALUE), Checks.MEET, 13, Checks.bits(-Double.MAX_VALUE), 0);
        CHECKS.dueOrder(12, 1, Checks.MEET, 13, 0, 0);
        CHECKS.dueOrder(12, 1, Checks.MEET, 13, 2, 2);
        CHECKS.dueOrder(12, 3, Checks.MEET, 13, 2, 2);
    }

    private static void pointStep(double v, int p, double want) {
        CHECKS.dueOrder(8, Checks.bits((float) v), Checks.STEP, p + 10, 0, Checks.bits((float) want));
        CHECKS.dueOrder(12, Checks.bits(v), Checks.STEP, p + 10, 0, Checks.bits(want));
    }

    private static void pointSteps() {
        pointStep(2.5, 0, 2);
        pointStep(3.5, 0, 4);
        pointStep(5, 1, 4);
        pointStep(7, 1, 8);
        pointStep(-1, 1, -0.0);
        pointStep(0.0, 10, 0.0);
        pointStep(-0.0, -10, -0.0);
        pointStep(512, 10, 0.0);
        pointStep(513, 10, 1024);
        pointStep(1536, 10, 2048);
        pointStep(0.375, -2, 0.5);
        pointStep(0.3125, -2, 0.25);
        pointStep(0.125, -2, 0.0);
        pointStep(0.00048828125, -10, 0.0);
        pointStep(0.00146484375, -10, 0.001953125);
        pointStep(INFINITE, 5, INFINITE);
        pointStep(-INFINITE, -5, -INFINITE);
        long most = Checks.bits(Double.MAX_VALUE);
        CHECKS.dueOrder(12, most, Checks.STEP, 20, 0, most);
        CHECKS.dueOrder(12, most, Checks.STEP, 10, 0, most);
        // v * 2^10 is infinite, and stays so.
        CHECKS.dueOrder(12, most, Checks.STEP, 0, 0, Checks.bits(INFINITE));
        CHECKS.dueOrder(8, Checks.bits(-Float.MAX_VALUE), Checks.STEP, 9, 0, Checks.bits(Float.NEGATIVE_INFINITY));
    }

    private static void dueHeld(int g, long v, long least, long greatest, long want) {
        BalanceRoom room = new BalanceRoom();
        room.read(g, v);
        room.read(g + 1, greatest);
        room.read(g + 1, least);
        room.order(Checks.HELD, g + 1);
        CHECKS.due(v + " held between " + least + " and " + greatest, want, () -> room.show(g));
    }

    private static void held() {
        dueHeld(0, 5, -3, 3, 3);
        dueHeld(0, -5, -3, 3, -3);
        dueHeld(0, 2, -3, 3, 2);
        dueHeld(0, IMIN, -3, 3, -3);
        dueHeld(4, LMAX, LMIN, 3, 3);
        dueHeld(4, LMIN, LMIN, 3, LMIN);
        dueHeld(8, Checks.bits(5f), Checks.bits(-3f), Checks.bits(3f), Checks.bits(3f));
        dueHeld(8, Checks.bits(-5f), Checks.bits(-3f), Checks.bits(3f), Checks.bits(-3f));
        dueHeld(8, Checks.bits(-0f), 0, Checks.bits(3f), 0);
        dueHeld(8, 0, Checks.bits(-3f), Checks.bits(-0f), Checks.bits(-0f));
        dueHeld(12, Checks.bits(-INFINITE), Checks.bits(-3.0), Checks.bits(3.0), Checks.bits(-3.0));
        dueHeld(12, Checks.bits(2.5), Checks.bits(-INFINITE), Checks.bits(INFINITE), Checks.bits(2.5));
        dueHeld(12, 0, Checks.bits(-0.0), Checks.bits(-0.0), Checks.bits(-0.0));
    }
}
