/**
 * A room with sixteen balances of four sorts and one tape of orders; ../shared/DOC.md says what it does.
 *
 * Every number is held as the long that tells its bits (an INT and a FLOAT with the sign carried on to the left).
 */
public final class BalanceRoom {
    public static final int NONE = -1;

    private static final int BALANCES = 16;
    private static final int SORTS = 4;
    private static final int BALANCES_OF_A_SORT = 4;
    private static final int MOST_ORDERS = 12;
    private static final int GREATEST_STEP = 20;
    private static final int STEP_OF_ONE = 10;

    private static final int SIZE = 0;
    private static final int DOWN = 1;
    private static final int UP = 2;
    private static final int NEAR = 3;
    private static final int SIGN = 4;
    private static final int LIKE = 5;
    private static final int MORE = 6;
    private static final int LESS = 7;
    private static final int STEP = 8;
    private static final int MEET = 9;
    private static final int TURN = 10;
    private static final int HELD = 11;
    private static final int PART = 12;

    private final Balance[] balances = new Balance[BALANCES];
    private final int[] codes = new int[MOST_ORDERS];
    private final int[] operands = new int[MOST_ORDERS];
    private int orders = 0;
    private int refused = NONE;

    public BalanceRoom() {
        Sort ints = new WholeSort(true);
        Sort longs = new WholeSort(false);
        Sort floats = new PointSort(true);
        Sort doubles = new PointSort(false);
        for (int i = 0; i < BALANCES_OF_A_SORT; i++) {
            balances[i] = new Balance(ints);
            balances[BALANCES_OF_A_SORT + i] = new Balance(longs);
            balances[2 * BALANCES_OF_A_SORT + i] = new Balance(floats);
            balances[3 * BALANCES_OF_A_SORT + i] = new Balance(doubles);
        }
    }

    public int read(int g, long bits) throws IllegalArgumentException {
        Balance balance = balanceAt(g);
        long v = balance.sort.fromBits(bits);
        if (!balance.sort.isNumber(v)) {
            throw new IllegalArgumentException("not a number");
        }
        return balance.take(v);
    }

    public int order(int code, int k) throws IllegalArgumentException, IllegalStateException {
        if (code < SIZE || code > PART) {
            throw new IllegalArgumentException("no such order");
        }
        if (k < 0 || k > greatestOperand(code)) {
            throw new IllegalArgumentException("no such k for this order");
        }
        if (orders >= MOST_ORDERS) {
            throw new IllegalStateException("the tape is full");
        }
        codes[orders] = code;
        operands[orders] = k;
        orders++;
        return orders;
    }

    public int wipe() {
        int had = orders;
        orders = 0;
        return had;
    }

    public long show(int g) throws IllegalArgumentException, IllegalStateException, ArithmeticException {
        return tapeDoneOn(g);
    }

    public int keep(int g) throws IllegalArgumentException, IllegalStateException, ArithmeticException {
        long v = tapeDoneOn(g);
        return balanceAt(g).take(v);
    }

    public int failed() {
        return refused;
    }

    public long reach(int a, int b) throws IllegalArgumentException, IllegalStateException {
        Balance one = balanceAt(a);
        Balance other = balanceAt(b);
        if (sortOf(a) != sortOf(b)) {
            throw new IllegalStateException("balances of unlike sorts");
        }
        if (one.count == 0 || other.count == 0) {
            throw new IllegalStateException("a balance without a reading");
        }
        Sort sort = one.sort;
        long x = sort.size(one.now);
        long y = sort.size(other.now);
        return sort.withHalf(sort.greater(x, y), sort.lesser(x, y));
    }

    public int top(int sort, boolean greatest) throws IllegalArgumentException {
        if (sort < 0 || sort >= SORTS) {
            throw new IllegalArgumentException("no such sort");
        }
        int best = NONE;
        long bestRank = 0;
        int first = sort * BALANCES_OF_A_SORT;
        for (int g = first; g < first + BALANCES_OF_A_SORT; g++) {
            Balance balance = balances[g];
            if (balance.count == 0) {
                continue;
            }
            long rank = balance.sort.rank(balance.now);
            boolean better = greatest ? rank > bestRank : rank < bestRank;
            if (best == NONE || better) {
                best = g;
                bestRank = rank;
            }
        }
        return best;
    }

    public long look(int g, int what) throws IllegalArgumentException {
        Balance balance = balanceAt(g);
        switch (what) {
            case 0:
                return balance.count;
            case 1:
                return balance.now;
            case 2:
                return balance.least;
            case 3:
                return balance.greatest;
            case 4:
                return balance.swing;
            case 5:
                return balance.trend;
            default:
                throw new IllegalArgumentException("no such what");
        }
    }

    public int forget(int g) throws IllegalArgumentException {
        Balance balance = balanceAt(g);
        int had = balance.count;
        balance.clear();
        return had;
    }

    private Balance balanceAt(int g) {
        if (g < 0 || g >= BALANCES) {
            throw new IllegalArgumentException("no such balance");
        }
        return balances[g];
    }

    private static int sortOf(int g) {
        return g / BALANCES_OF_A_SORT;
    }

    private static boolean usesBalance(int code) {
        return code == LIKE || code == MORE || code == LESS || code == MEET || code == HELD;
    }

    private static int greatestOperand(int code) {
        if (usesBalance(code)) {
            return BALANCES - 1;
        }
        return code == STEP ? GREATEST_STEP : 0;
    }

    private long tapeDoneOn(int g) {
        // Told anew by each show() and keep(), even by one that throws before its first order.
        refused = NONE;
        Balance balance = balanceAt(g);
        if (balance.count == 0) {
            throw new IllegalStateException("a balance without a reading");
        }
        long v = balance.now;
        for (int i = 0; i < orders; i++) {
            if (usesBalance(codes[i])) {
                refuseUnfit(i, g, v);
            }
            v = orderDone(balance.sort, codes[i], operands[i], v);
        }
        return v;
    }

    private void refuseUnfit(int i, int g, long v) {
        int k = operands[i];
        Balance other = balances[k];
        if (sortOf(k) != sortOf(g) || other.count == 0) {
            refused = i;
            throw new IllegalStateException("an order's balance is of another sort or without a reading");
        }
        if (codes[i] == MEET && !other.sort.canMeet(v, other.now)) {
            refused = i;
            throw new ArithmeticException("infinite ones with unlike signs do not meet");
        }
    }

    private long orderDone(Sort sort, int code, int k, long v) {
        switch (code) {
            case SIZE:
                return sort.size(v);
            case DOWN:
                return sort.down(v);
            case UP:
                return sort.up(v);
            case NEAR:
                return sort.near(v);
            case SIGN:
                return sort.sign(v);
            case LIKE:
                return sort.like(v, balances[k].now);
            case MORE:
                return sort.greater(v, balances[k].now);
            case LESS:
                return sort.lesser(v, balances[k].now);
            case STEP:
                return sort.step(v, k - STEP_OF_ONE);
            case MEET:
                return sort.meet(v, balances[k].now);
            case TURN:
                return sort.turn(v);
            case HELD:
                return sort.greater(balances[k].least, sort.lesser(v, balances[k].greatest));
            default:
                // Only PART is left: order() lets no other code in.
                return sort.part(v);
        }
    }

    private static final class Balance {
        final Sort sort;
        int count = 0;
        long now = 0;
        long least = 0;
        long greatest = 0;
        long swing = 0;
        long trend = 0;

        Balance(Sort sort) {
            this.sort = sort;
        }

        int take(long v) {
            if (count == 0) {
                least = v;
                greatest = v;
            } else {
                long change = sort.change(now, v);
                trend = sort.sign(change);
                swing = sort.greater(swing, sort.size(change));
                least = sort.lesser(least, v);
                greatest = sort.greater(greatest, v);
            }
            now = v;
            count++;
            return count;
        }

        void clear() {
            count = 0;
            now = 0;
            least = 0;
            greatest = 0;
            swing = 0;
            trend = 0;
        }
    }

    /** What can be done with the numbers of one sort. */
    private abstract static class Sort {
        private final boolean narrow;

        Sort(boolean narrow) {
            this.narrow = narrow;
        }

        /** The number that these bits tell: of a narrow sort only the lowest 32 count. */
        final long fromBits(long bits) {
            return narrow ? (int) bits : bits;
        }

        abstract boolean isNumber(long v);

        /** A whole number for each number of the sort, in the same order. */
        abstract long rank(long v);

        abstract long size(long v);

        abstract long down(long v);

        abstract long up(long v);

        abstract long near(long v);

        abstract long sign(long v);

        abstract long like(long v, long w);

        abstract long step(long v, int p);

        abstract boolean canMeet(long v, long w);

        abstract long meet(long v, long w);

        abstract long turn(long v);

        abstract long part(long v);

        /** How far it is from one reading to the next: a reading's D. */
        abstract long change(long from, long to);

        /** x and half of y together. */
        abstract long withHalf(long x, long y);

        final long greater(long v, long w) {
            return rank(v) >= rank(w) ? v : w;
        }

        final long lesser(long v, long w) {
            return rank(v) <= rank(w) ? v : w;
        }
    }

    /** INTS and LONGS, both reckoned in longs: fromBits() is what makes an INT wrap. */
    private static final class WholeSort extends Sort {
        WholeSort(boolean narrow) {
            super(narrow);
        }

        boolean isNumber(long v) {
            return true;
        }

        long rank(long v) {
            return v;
        }

        long size(long v) {
            return v < 0 ? turn(v) : v;
        }

        long down(long v) {
            return v;
        }

        long up(long v) {
            return v;
        }

        long near(long v) {
            return v;
        }

        long sign(long v) {
            if (v == 0) {
                return 0;
            }
            return v > 0 ? 1 : -1;
        }

        long like(long v, long w) {
            return w < 0 ? turn(size(v)) : size(v);
        }

        long step(long v, int p) {
            return p <= 0 ? v : (v >> p) << p;
        }

        boolean canMeet(long v, long w) {
            return true;
        }

        long meet(long v, long w) {
            return fromBits(v + w) >> 1;
        }

        long turn(long v) {
            return fromBits(-v);
        }

        long part(long v) {
            return 0;
        }

        long change(long from, long to) {
            return fromBits(to - from);
        }

        long withHalf(long x, long y) {
            return fromBits(x + (y >> 1));
        }
    }

    /**
     * FLOATS and DOUBLES, reckoned with whole numbers on their bits: the rules of the language leave no call that
     * makes a float of bits, or bits of a float.
     *
     * A finite number that is not 0 is its SIGNIFICAND (with the hidden bit) times a power of 2, which its EXPONENT
     * counts; the least normal ones and those below them have exponent 1.
     */
    private static final class PointSort extends Sort {
        // Bits behind the last one while a sum is made: two that are exact, one that tells of all further ones.
        private static final int SPARE_BITS = 3;
        private static final long SPARE_MASK = 7;
        private static final long SPARE_HALF = 4;
        // A significand with its spare bits has fewer: shifted so far nothing of it is left.
        private static final int ALL_BITS = 60;

        private final int fractionBits;
        private final long hiddenBit;
        private final long signBits;
        private final int exponentOfOne;
        private final int exponentOfInfinite;
        private final long one;
        private final long half;
        private final long infinite;

        PointSort(boolean narrow) {
            super(narrow);
            int exponentBits = narrow ? 8 : 11;
            fractionBits = narrow ? 23 : 52;
            hiddenBit = 1L << fractionBits;
            signBits = -1L << (fractionBits + exponentBits);
            exponentOfOne = (1 << (exponentBits - 1)) - 1;
            exponentOfInfinite = (1 << exponentBits) - 1;
            one = (long) exponentOfOne << fractionBits;
            half = (long) (exponentOfOne - 1) << fractionBits;
            infinite = (long) exponentOfInfinite << fractionBits;
        }

        boolean isNumber(long v) {
            return size(v) <= infinite;
        }

        long rank(long v) {
            return v < 0 ? -1 - size(v) : v;
        }

        long size(long v) {
            return v & ~signBits;
        }

        long down(long v) {
            return v < 0 ? withSign(wholeUp(size(v)), true) : wholeDown(v);
        }

        long up(long v) {
            return v < 0 ? withSign(wholeDown(size(v)), true) : wholeUp(v);
        }

        long near(long v) {
            return withSign(wholeNear(size(v)), v < 0);
        }

        long sign(long v) {
            return size(v) == 0 ? v : withSign(one, v < 0);
        }

        long like(long v, long w) {
            return withSign(size(v), w < 0);
        }

        long step(long v, int p) {
            return scaled(near(scaled(v, -p)), p);
        }

        boolean canMeet(long v, long w) {
            return !isInfinite(v) || !isInfinite(w) || v == w;
        }

        long meet(long v, long w) {
            return scaled(sum(v, w), -1);
        }

        long turn(long v) {
            return v ^ signBits;
        }

        long part(long v) {
            return isInfinite(v) ? withSign(0, v < 0) : sum(v, turn(down(v)));
        }

        long change(long from, long to) {
            boolean bothInfinite = isInfinite(to) && from == to;
            return bothInfinite ? 0 : sum(to, turn(from));
        }

        long withHalf(long x, long y) {
            return sum(x, scaled(y, -1));
        }

        private boolean isInfinite(long v) {
            return size(v) == infinite;
        }

        private long withSign(long unsigned, boolean negative) {
            return negative ? unsigned | signBits : unsigned;
        }

        private int exponent(long v) {
            int told = (int) (size(v) >> fractionBits);
            return told == 0 ? 1 : told;
        }

        private long significand(long v) {
            long fraction = v & (hiddenBit - 1);
            return size(v) < hiddenBit ? fraction : fraction | hiddenBit;
        }

        /** How much 1 is, counted in the last bit of a number from 1 on; 1, too, where that bit counts more. */
        private long unitOf(long unsigned) {
            int above = (int) (unsigned >> fractionBits) - exponentOfOne;
            return above >= fractionBits ? 1 : 1L << (fractionBits - above);
        }

        private long wholeDown(long unsigned) {
            return unsigned < one ? 0 : unsigned & -unitOf(unsigned);
        }

        private long wholeUp(long unsigned) {
            if (unsigned < one) {
                return unsigned == 0 ? 0 : one;
            }
            long unit = unitOf(unsigned);
            long below = unsigned & -unit;
            // A carry out of the fraction goes on into the exponent, which is just what is due.
            return below == unsigned ? below : below + unit;
        }

        private long wholeNear(long unsigned) {
            if (unsigned < one) {
                return unsigned > half ? one : 0;
            }
            long unit = unitOf(unsigned);
            long below = unsigned & -unit;
            long twiceTheRest = (unsigned - below) << 1;
            // Of 1 itself the bit that tells odd from even is the hidden one.
            boolean odd = ((below | hiddenBit) & unit) != 0;
            boolean upwards = twiceTheRest > unit || (twiceTheRest == unit && odd);
            return upwards ? below + unit : below;
        }

        /** v + w, which are not infinite with unlike signs. */
        private long sum(long v, long w) {
            if (isInfinite(v)) {
                return v;
            }
            if (isInfinite(w)) {
                return w;
            }
            long large = size(v) >= size(w) ? v : w;
            long small = size(v) >= size(w) ? w : v;
            long most = significand(large) << SPARE_BITS;
            long rest = shiftedDown(significand(small) << SPARE_BITS, exponent(large) - exponent(small));
            boolean alike = (v < 0) == (w < 0);
            long together = alike ? most + rest : most - rest;
            if (together == 0) {
                return v & w & signBits;
            }
            return rounded(together, exponent(large), large < 0);
        }

        /** v * 2^p */
        private long scaled(long v, int p) {
            if (size(v) == 0 || isInfinite(v)) {
                return v;
            }
            return rounded(significand(v) << SPARE_BITS, exponent(v) + p, v < 0);
        }

        /** The nearest number to a significand with spare bits, which is not 0, at that exponent. */
        private long rounded(long spared, int exponent, boolean negative) {
            long leastNormal = hiddenBit << SPARE_BITS;
            long m = spared;
            int e = exponent;
            if (m >= leastNormal << 1) {
                m = shiftedDown(m, 1);
                e++;
            }
            for (int i = 0; i < ALL_BITS && m < leastNormal && e > 1; i++) {
                m <<= 1;
                e--;
            }
            if (e < 1) {
                m = shiftedDown(m, 1 - e);
                e = 1;
            }
            if (e >= exponentOfInfinite) {
                return withSign(infinite, negative);
            }
            long kept = m >> SPARE_BITS;
            long cut = m & SPARE_MASK;
            if (cut > SPARE_HALF || (cut == SPARE_HALF && (kept & 1) == 1)) {
                kept++;
            }
            // The hidden bit, if it is there, counts the exponent up by the 1 that is taken off here.
            return withSign(((long) (e - 1) << fractionBits) + kept, negative);
        }

        /** Shifted to the right; the last bit is set, too, if a bit fell off. */
        private static long shiftedDown(long m, int by) {
            if (by >= ALL_BITS) {
                return m == 0 ? 0 : 1;
            }
            long kept = m >> by;
            return (kept << by) == m ? kept : kept | 1;
        }
    }
}
