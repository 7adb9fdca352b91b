/**
 * The room once more, written from the document with Java's own floats and doubles, against which the class is
 * tested. Where the class reckons on bits, this takes what the Java library has.
 */
final class Model {
    private final int[] counts = new int[16];
    private final Number[][] told = new Number[16][6];
    private final int[][] tape = new int[12][2];
    private int length = 0;
    private int refused = -1;

    Model() {
        for (int g = 0; g < 16; g++) {
            clear(g);
        }
    }

    private void clear(int g) {
        counts[g] = 0;
        for (int what = 1; what < 6; what++) {
            told[g][what] = number(g / 4, 0);
        }
    }

    static Number number(int sort, long bits) {
        switch (sort) {
            case 0:
                return (int) bits;
            case 1:
                return bits;
            case 2:
                return Float.intBitsToFloat((int) bits);
            default:
                return Double.longBitsToDouble(bits);
        }
    }

    static long bits(Number v) {
        if (v instanceof Float) {
            return Float.floatToRawIntBits(v.floatValue());
        }
        return v instanceof Double ? Double.doubleToRawLongBits(v.doubleValue()) : v.longValue();
    }

    private static boolean isFloating(Number v) {
        return v instanceof Float || v instanceof Double;
    }

    private static boolean isInfinite(Number v) {
        return isFloating(v) && Double.isInfinite(v.doubleValue());
    }

    private static void needBalance(int g) {
        if (g < 0 || g > 15) {
            throw new IllegalArgumentException();
        }
    }

    long read(int g, long bits) {
        needBalance(g);
        Number v = number(g / 4, bits);
        if (Double.isNaN(v.doubleValue())) {
            throw new IllegalArgumentException();
        }
        return reading(g, v);
    }

    private long reading(int g, Number v) {
        Number[] all = told[g];
        if (counts[g] == 0) {
            all[2] = v;
            all[3] = v;
        } else {
            boolean none = isInfinite(v) && v.equals(all[1]);
            Number d = none ? number(g / 4, 0) : minus(v, all[1]);
            all[5] = sign(d);
            all[4] = max(all[4], size(d));
            all[2] = min(all[2], v);
            all[3] = max(all[3], v);
        }
        all[1] = v;
        counts[g]++;
        return counts[g];
    }

    long order(int code, int k) {
        boolean against = code == 5 || code == 6 || code == 7 || code == 9 || code == 11;
        int most = against ? 15 : code == 8 ? 20 : 0;
        if (code < 0 || code > 12 || k < 0 || k > most) {
            throw new IllegalArgumentException();
        }
        if (length == 12) {
            throw new IllegalStateException();
        }
        tape[length][0] = code;
        tape[length][1] = k;
        return ++length;
    }

    long wipe() {
        int had = length;
        length = 0;
        return had;
    }

    private Number done(int g) {
        refused = -1;
        needBalance(g);
        if (counts[g] == 0) {
            throw new IllegalStateException();
        }
        Number v = told[g][1];
        for (int i = 0; i < length; i++) {
            refused = i;
            v = done(v, g / 4, tape[i][0], tape[i][1]);
        }
        refused = -1;
        return v;
    }

    private Number done(Number v, int sort, int code, int k) {
        switch (code) {
            case 0:
                return size(v);
            case 1:
                return isFloating(v) ? like(v, Math.floor(v.doubleValue())) : v;
            case 2:
                return isFloating(v) ? like(v, Math.ceil(v.doubleValue())) : v;
            case 3:
                return isFloating(v) ? like(v, Math.rint(v.doubleValue())) : v;
            case 4:
                return sign(v);
            case 8:
                return step(v, k - 10);
            case 10:
                return turned(v);
            case 12:
                return part(v);
            default:
                if (k / 4 != sort || counts[k] == 0) {
                    throw new IllegalStateException();
                }
                return against(v, told[k], code);
        }
    }

    private static Number against(Number v, Number[] other, int code) {
        Number w = other[1];
        switch (code) {
            case 5:
                return withSignOf(v, w);
            case 6:
                return max(v, w);
            case 7:
                return min(v, w);
            case 9:
                return meet(v, w);
            default:
                return max(other[2], min(v, other[3]));
        }
    }

    /** A double as a number of the sort of v. */
    private static Number like(Number v, double x) {
        return v instanceof Float ? (Number) (float) x : (Number) x;
    }

    private static Number size(Number v) {
        if (v instanceof Integer) {
            return Math.abs(v.intValue());
        }
        return v instanceof Long ? (Number) Math.abs(v.longValue()) : like(v, Math.abs(v.doubleValue()));
    }

    private static Number sign(Number v) {
        if (v instanceof Integer) {
            return Integer.signum(v.intValue());
        }
        return v instanceof Long ? (Number) (long) Long.signum(v.longValue()) : like(v, Math.signum(v.doubleValue()));
    }

    private static Number turned(Number v) {
        if (v instanceof Integer) {
            return 0 - v.intValue();
        }
        return v instanceof Long ? (Number) (0 - v.longValue()) : like(v, -v.doubleValue());
    }

    private static Number plus(Number v, Number w) {
        if (v instanceof Integer) {
            return v.intValue() + w.intValue();
        }
        if (v instanceof Long) {
            return v.longValue() + w.longValue();
        }
        return v instanceof Float ? (Number) (v.floatValue() + w.floatValue()) : v.doubleValue() + w.doubleValue();
    }

    private static Number minus(Number v, Number w) {
        if (v instanceof Integer) {
            return v.intValue() - w.intValue();
        }
        if (v instanceof Long) {
            return v.longValue() - w.longValue();
        }
        return v instanceof Float ? (Number) (v.floatValue() - w.floatValue()) : v.doubleValue() - w.doubleValue();
    }

    private static Number times(Number v, double factor) {
        return v instanceof Float ? (Number) (v.floatValue() * (float) factor) : v.doubleValue() * factor;
    }

    private static Number halved(Number v) {
        if (v instanceof Integer) {
            return Math.floorDiv(v.intValue(), 2);
        }
        return v instanceof Long ? (Number) Math.floorDiv(v.longValue(), 2L) : times(v, 0.5);
    }

    private static Number max(Number v, Number w) {
        if (isFloating(v)) {
            return like(v, Math.max(v.doubleValue(), w.doubleValue()));
        }
        return v.longValue() > w.longValue() ? v : w;
    }

    private static Number min(Number v, Number w) {
        if (isFloating(v)) {
            return like(v, Math.min(v.doubleValue(), w.doubleValue()));
        }
        return v.longValue() < w.longValue() ? v : w;
    }

    private static Number withSignOf(Number v, Number w) {
        if (isFloating(v)) {
            return like(v, Math.copySign(v.doubleValue(), w.doubleValue()));
        }
        return w.longValue() < 0 ? turned(size(v)) : size(v);
    }

    private static Number step(Number v, int p) {
        if (isFloating(v)) {
            Number near = like(v, Math.rint(times(v, Math.pow(2, -p)).doubleValue()));
            return times(near, Math.pow(2, p));
        }
        if (p < 0) {
            return v;
        }
        long whole = v.longValue() - Math.floorMod(v.longValue(), 1L << p);
        return v instanceof Integer ? (Number) (int) whole : (Number) whole;
    }

    private static Number meet(Number v, Number w) {
        if (isInfinite(v) && isInfinite(w) && !v.equals(w)) {
            throw new ArithmeticException();
        }
        return halved(plus(v, w));
    }

    private static Number part(Number v) {
        if (!isFloating(v)) {
            return minus(v, v);
        }
        return isInfinite(v) ? like(v, Math.copySign(0.0, v.doubleValue()))
                : minus(v, like(v, Math.floor(v.doubleValue())));
    }

    long show(int g) {
        return bits(done(g));
    }

    long keep(int g) {
        return reading(g, done(g));
    }

    long failed() {
        return refused;
    }

    long reach(int a, int b) {
        needBalance(a);
        needBalance(b);
        if (a / 4 != b / 4 || counts[a] == 0 || counts[b] == 0) {
            throw new IllegalStateException();
        }
        Number x = size(told[a][1]);
        Number y = size(told[b][1]);
        return bits(plus(max(x, y), halved(min(x, y))));
    }

    long top(int sort, boolean greatest) {
        if (sort < 0 || sort > 3) {
            throw new IllegalArgumentException();
        }
        int best = -1;
        for (int g = 4 * sort + 3; g >= 4 * sort; g--) {
            if (counts[g] > 0 && (best < 0 || isBest(told[g][1], told[best][1], greatest))) {
                best = g;
            }
        }
        return best;
    }

    private static boolean isBest(Number v, Number w, boolean greatest) {
        return bits(greatest ? max(v, w) : min(v, w)) == bits(v);
    }

    long look(int g, int what) {
        needBalance(g);
        if (what < 0 || what > 5) {
            throw new IllegalArgumentException();
        }
        return what == 0 ? counts[g] : bits(told[g][what]);
    }

    long forget(int g) {
        needBalance(g);
        int had = counts[g];
        clear(g);
        return had;
    }
}
