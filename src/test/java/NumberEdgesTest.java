/** The edges in "Terms": SORTS, and the BITS in which they are told. */
public final class NumberEdgesTest {
    private static final Checks CHECKS = new Checks();

    public static void main(String[] args) {
        for (int g : Numbers.WHOLE) {
            wholeOnesWrap(g);
        }
        intsAndLongsWrapApart();
        for (int g : Numbers.POINTS) {
            minusZeroIsTheLesser(g);
            infiniteOnes(g);
            leastOnesThatAreNotZero(g);
            nearestOfSums(g);
            nearestOfDifferences(g);
            nearestOfProducts(g);
            nearestIsInfinite(g);
            notANumberIsNeverTaken(g);
            notANumberNeverComes(g);
        }
        toldInBits();
        CHECKS.end();
    }

    private static void dueReading(int g, long before, long v, long swing, long trend) {
        BalanceRoom room = new BalanceRoom();
        room.read(g, before);
        room.read(g, v);
        CHECKS.due("SWING of " + before + ", " + v + " in " + g, swing, () -> room.look(g, Checks.SWING));
        CHECKS.due("TREND of " + before + ", " + v + " in " + g, trend, () -> room.look(g, Checks.TREND));
    }

    private static void dueReach(int g, long v, long w, long want) {
        BalanceRoom room = new BalanceRoom();
        room.read(g, v);
        room.read(g + 1, w);
        CHECKS.due("reach of " + v + ", " + w + " in " + g, want, () -> room.reach(g, g + 1));
        CHECKS.due("reach of " + w + ", " + v + " in " + g, want, () -> room.reach(g + 1, g));
    }

    private static void dueMeet(int g, long v, long w, long want) {
        CHECKS.dueOrder(g, v, Checks.MEET, g + 1, w, want);
        CHECKS.dueOrder(g, w, Checks.MEET, g + 1, v, want);
    }

    private static void wholeOnesWrap(int g) {
        CHECKS.about("INTS and LONGS wrap.");
        long least = Numbers.leastWhole(g);
        long greatest = Numbers.greatestWhole(g);
        dueReading(g, least, greatest, 1, -1);
        dueReading(g, greatest, least, 1, 1);
        dueReading(g, greatest, -2, greatest, 1);
        dueReading(g, greatest - 1, greatest, 1, 1);
        dueMeet(g, greatest, 1, least / 2);
        dueMeet(g, least, -1, greatest / 2);
        dueMeet(g, least, least, 0);
        dueMeet(g, greatest, greatest, -1);
        dueReach(g, greatest, greatest, least + greatest / 2 - 1);
        dueReach(g, greatest, 2, least);
        dueReach(g, greatest, 1, greatest);
        CHECKS.dueAlone(g, least, Checks.TURN, 0, least);
        CHECKS.dueAlone(g, least + 1, Checks.TURN, 0, greatest);
        CHECKS.dueAlone(g, least, Checks.STEP, 20, least);
    }

    private static void intsAndLongsWrapApart() {
        CHECKS.about("0 INTS (32 bits, with sign), 1 LONGS (64 bits)");
        dueMeet(4, Integer.MAX_VALUE, 1, 1L << 30);
        dueReading(4, Integer.MIN_VALUE, Integer.MAX_VALUE, 0xffffffffL, 1);
        dueReach(4, Integer.MAX_VALUE, 2, 1L << 31);
        CHECKS.dueAlone(4, Integer.MIN_VALUE, Checks.TURN, 0, 1L << 31);
        CHECKS.dueAlone(4, Integer.MIN_VALUE, Checks.SIZE, 0, 1L << 31);
        CHECKS.dueAlone(0, 1L << 31, Checks.SIGN, 0, -1);
        CHECKS.dueAlone(4, 1L << 31, Checks.SIGN, 0, 1);
    }

    private static void minusZeroIsTheLesser(int g) {
        CHECKS.about("-0.0 is the lesser of these two, here and below");
        long minus = Numbers.of(g, -0.0);
        long[][] bothWays = {{minus, 0}, {0, minus}};
        for (long[] two : bothWays) {
            BalanceRoom room = new BalanceRoom();
            room.read(g + 1, two[0]);
            room.read(g + 1, two[1]);
            CHECKS.due("LEAST", minus, () -> room.look(g + 1, Checks.LEAST));
            CHECKS.due("GREATEST", 0, () -> room.look(g + 1, Checks.GREATEST));
            CHECKS.dueOrder(g, two[0], Checks.MORE, g + 1, two[1], 0);
            CHECKS.dueOrder(g, two[0], Checks.LESS, g + 1, two[1], minus);
            BalanceRoom pair = new BalanceRoom();
            pair.read(g, two[0]);
            pair.read(g + 3, two[1]);
            int plain = two[0] == 0 ? g : g + 3;
            CHECKS.due("top, the greatest", plain, () -> pair.top(g / 4, true));
            CHECKS.due("top, the least", 2 * g + 3 - plain, () -> pair.top(g / 4, false));
        }
        CHECKS.dueOrder(g, minus, Checks.HELD, g + 1, 0, 0);
        CHECKS.dueOrder(g, 0, Checks.HELD, g + 1, minus, minus);
    }

    private static void infiniteOnes(int g) {
        CHECKS.about("infinite ones");
        long above = Numbers.of(g, Numbers.INFINITE);
        long below = Numbers.of(g, -Numbers.INFINITE);
        long greatest = Numbers.greatestFinite(g);
        long least = Numbers.leastFinite(g);
        BalanceRoom room = new BalanceRoom();
        CHECKS.due("one is taken", 1, () -> room.read(g, above));
        CHECKS.due("one below 0 is taken", 1, () -> room.read(g + 1, below));
        room.read(g + 2, greatest);
        room.read(g + 3, least);
        CHECKS.due("the greatest of all", g, () -> room.top(g / 4, true));
        CHECKS.due("the least of all", g + 1, () -> room.top(g / 4, false));
        CHECKS.dueOrder(g, above, Checks.MORE, g + 1, greatest, above);
        CHECKS.dueOrder(g, above, Checks.LESS, g + 1, greatest, greatest);
        CHECKS.dueOrder(g, below, Checks.LESS, g + 1, least, below);
        CHECKS.dueOrder(g, below, Checks.MORE, g + 1, least, least);
        dueReading(g, greatest, above, above, Numbers.of(g, 1));
        dueReading(g, above, greatest, above, Numbers.of(g, -1));
        dueReading(g, least, below, above, Numbers.of(g, -1));
        dueReach(g, below, greatest, above);
        dueReach(g, below, 0, above);
    }

    private static void leastOnesThatAreNotZero(int g) {
        CHECKS.about("the least ones that are not 0");
        long one = Numbers.of(g, 1);
        long minusOne = Numbers.of(g, -1);
        long tiny = Numbers.tiny(g, 1);
        long minusTiny = Numbers.tiny(g, -1);
        BalanceRoom room = new BalanceRoom();
        CHECKS.due("one is taken", 1, () -> room.read(g, tiny));
        CHECKS.due("and it is itself", tiny, () -> room.look(g, Checks.NOW));
        room.read(g + 1, 0);
        CHECKS.due("it is above 0.0", g, () -> room.top(g / 4, true));
        room.read(g + 1, Numbers.of(g, -0.0));
        room.read(g, minusTiny);
        CHECKS.due("it is below -0.0", g, () -> room.top(g / 4, false));
        dueReading(g, 0, tiny, tiny, one);
        dueReading(g, tiny, 0, tiny, minusOne);
        dueReading(g, tiny, minusTiny, Numbers.tiny(g, 2), minusOne);
        long normal = Numbers.leastNormal(g);
        dueReading(g, normal - 1, normal, tiny, one);
        dueReading(g, normal + 1, normal, tiny, minusOne);
        dueReading(g, minusTiny, normal - 1, normal, one);
        dueReading(g, 2 * normal, 2 * normal + 1, Numbers.tiny(g, 2), one);
        dueReading(g, 3 * normal, 3 * normal + 1, Numbers.tiny(g, 4), one);
        dueReading(g, 2 * normal, 2 * normal - 1, tiny, minusOne);
        dueMeet(g, Numbers.tiny(g, 2), 0, tiny);
        dueMeet(g, Numbers.tiny(g, -2), 0, minusTiny);
        dueReach(g, Numbers.tiny(g, -5), Numbers.tiny(g, 4), Numbers.tiny(g, 7));
        CHECKS.dueAlone(g, tiny, Checks.SIGN, 0, one);
        CHECKS.dueAlone(g, minusTiny, Checks.SIGN, 0, minusOne);
    }

    /** 2^n is the first number of which the next one is 2 apart. */
    private static void nearestOfSums(int g) {
        CHECKS.about("each operation (+ ..) gives the nearest one of its sort, of two equally near the one whose last "
                + "bit is 0");
        int n = Numbers.precision(g);
        long far = Numbers.power(g, n);
        // The answers are halved once more, which is exact: a number's exponent less 1.
        long half = Numbers.power(g, n - 1);
        long one = Numbers.of(g, 1);
        long three = Numbers.of(g, 3);
        dueMeet(g, far, one, half);
        dueMeet(g, far, one - 1, half);
        dueMeet(g, far, one + 1, half + 1);
        dueMeet(g, far, three, half + 2);
        dueMeet(g, far, three - 1, half + 1);
        dueMeet(g, far, three + 1, half + 2);
        dueMeet(g, far + 1, one, half + 2);
        dueMeet(g, far + 1, one - 1, half + 1);
        dueMeet(g, far, Numbers.tiny(g, 1), half);
        // Above the half by bits at each distance behind it, and by the last bit of the lesser number as well.
        for (int behind = 1; behind < n - 1; behind++) {
            long above = Numbers.of(g, 1 + Math.scalb(1.0, -behind));
            dueMeet(g, far, above, half + 1);
            dueMeet(g, far, above + 1, half + 1);
            dueMeet(g, far, above - 1, half + 1);
        }
        dueMeet(g, Numbers.of(g, -Math.scalb(1.0, n)), Numbers.of(g, -1), Numbers.of(g, -Math.scalb(1.0, n - 1)));
        dueReach(g, far, Numbers.of(g, 2), far);
        dueReach(g, far, Numbers.of(g, 6), far + 2);
        dueReach(g, far + 1, Numbers.of(g, -2), far + 2);
    }

    private static void nearestOfDifferences(int g) {
        CHECKS.about("each operation (.. - ..) gives the nearest one of its sort, of two equally near the one whose "
                + "last bit is 0");
        int n = Numbers.precision(g);
        long far = Numbers.power(g, n);
        long one = Numbers.of(g, 1);
        dueReading(g, Numbers.of(g, -1), far, far, one);
        dueReading(g, Numbers.of(g, -3), far, far + 2, one);
        dueReading(g, Numbers.of(g, -1), far + 1, far + 2, one);
        // Below a power of 2 the numbers stand twice as close.
        dueReading(g, Numbers.of(g, 0.5), far, far, one);
        dueReading(g, Numbers.of(g, 0.5) + 1, far, far - 1, one);
        dueReading(g, Numbers.of(g, 1.5), far, far - 2, one);
        dueReading(g, one, far, far - 1, one);
        dueReading(g, Numbers.tiny(g, 1), one, one, one);
        dueReading(g, one, one + 1, Numbers.power(g, 1 - n), one);
        dueReading(g, one, one - 1, Numbers.power(g, -n), Numbers.of(g, -1));
        long deep = Numbers.of(g, -Math.scalb(1.0, -n - 1));
        CHECKS.dueAlone(g, deep, Checks.PART, 0, one);
        CHECKS.dueAlone(g, deep + 1, Checks.PART, 0, one - 1);
        CHECKS.dueAlone(g, Numbers.of(g, -3 * Math.scalb(1.0, -n - 1)), Checks.PART, 0, one - 2);
    }

    private static void nearestOfProducts(int g) {
        CHECKS.about("each operation (.. *) gives the nearest one of its sort, of two equally near the one whose last "
                + "bit is 0");
        int[] halves = {0, 0, 1, 2, 2, 2, 3, 4, 4};
        for (int many = 0; many < halves.length; many++) {
            dueMeet(g, Numbers.tiny(g, many), 0, Numbers.tiny(g, halves[many]));
            dueReach(g, Numbers.tiny(g, many), Numbers.tiny(g, many), Numbers.tiny(g, many + halves[many]));
        }
        dueMeet(g, Numbers.tiny(g, -1), Numbers.of(g, -0.0), Numbers.of(g, -0.0));
        dueMeet(g, Numbers.tiny(g, -3), Numbers.of(g, -0.0), Numbers.tiny(g, -2));
        long normal = Numbers.leastNormal(g);
        dueMeet(g, normal, normal + 1, normal);
        dueMeet(g, normal + 1, 0, normal / 2);
        dueMeet(g, normal + 3, 0, normal / 2 + 2);
        dueMeet(g, 2 * normal - 1, 0, normal);
    }

    private static void nearestIsInfinite(int g) {
        CHECKS.about("each operation (+ - *) gives the nearest one of its sort: behind the greatest one");
        long above = Numbers.of(g, Numbers.INFINITE);
        long below = Numbers.of(g, -Numbers.INFINITE);
        long greatest = Numbers.greatestFinite(g);
        long least = Numbers.leastFinite(g);
        // Half of the greatest one's last bit: the sum is as near to the next power of 2, which is infinite.
        int exponent = g < 12 ? 103 : 970;
        long halfBit = Numbers.power(g, exponent);
        dueMeet(g, greatest, halfBit, above);
        dueMeet(g, greatest, halfBit - 1, greatest - Numbers.leastNormal(g));
        dueMeet(g, least, Numbers.of(g, -Math.scalb(1.0, exponent)), below);
        dueReading(g, Numbers.of(g, -Math.scalb(1.0, exponent)), greatest, above, Numbers.of(g, 1));
        dueReading(g, Numbers.of(g, -Math.scalb(1.0, exponent)) - 1, greatest, greatest, Numbers.of(g, 1));
        dueReach(g, greatest, Numbers.power(g, exponent + 1), above);
        dueReach(g, greatest, Numbers.power(g, exponent + 1) - 1, greatest);
        CHECKS.dueAlone(g, greatest, Checks.STEP, 9, above);
        CHECKS.dueAlone(g, least, Checks.STEP, 9, below);
        CHECKS.dueAlone(g, greatest, Checks.STEP, 10, greatest);
        CHECKS.dueAlone(g, greatest, Checks.STEP, 20, greatest);
    }

    private static void notANumberIsNeverTaken(int g) {
        CHECKS.about("What is not a number is never taken");
        long above = Numbers.of(g, Numbers.INFINITE);
        long below = Numbers.of(g, -Numbers.INFINITE);
        long quiet = g < 12 ? 0x7fc00000L : 0x7ff8000000000000L;
        long[] none = {above + 1, below + 1, quiet, quiet + 1, Numbers.greatestWhole(g - 8), -1, -2};
        BalanceRoom room = new BalanceRoom();
        for (long bits : none) {
            CHECKS.dueThrow("read(" + g + ", " + bits + ")", Checks.ARGUMENT, () -> room.read(g, bits));
        }
        CHECKS.dueBalance("none was taken", room, g, 0, 0, 0, 0, 0, 0);
        CHECKS.due("the last number below them", 1, () -> room.read(g, above));
        CHECKS.due("the last one with the sign", 2, () -> room.read(g, below));
    }

    private static void notANumberNeverComes(int g) {
        CHECKS.about("What is not a number .. never comes");
        long[] numbers = {0, Numbers.of(g, -0.0), Numbers.of(g, 1), Numbers.of(g, -1), Numbers.tiny(g, 1),
            Numbers.tiny(g, -1), Numbers.greatestFinite(g), Numbers.leastFinite(g), Numbers.of(g, Numbers.INFINITE),
            Numbers.of(g, -Numbers.INFINITE)};
        for (long v : numbers) {
            for (long w : numbers) {
                numbersAlone(g, v, w);
            }
        }
    }

    private static void numbersAlone(int g, long v, long w) {
        for (int code = 0; code <= 12; code++) {
            BalanceRoom room = new BalanceRoom();
            room.read(g, v);
            room.read(g + 1, w);
            boolean alone = code < Checks.LIKE || code == Checks.TURN || code == Checks.PART;
            int k = code == Checks.STEP ? 0 : alone ? 0 : g + 1;
            String what = "order " + code + " on " + v + " against " + w + " in " + g;
            room.order(code, k);
            boolean unlike = v != w && isInfinite(g, v) && isInfinite(g, w);
            if (code == Checks.MEET && unlike) {
                CHECKS.dueThrow(what, Checks.ARITHMETIC, () -> room.show(g));
                continue;
            }
            CHECKS.dueTrue(what + " gives a number", Numbers.isNumber(g, room.show(g)));
            room.keep(g);
            room.wipe();
            room.read(g, w);
            for (int told = Checks.NOW; told <= Checks.TREND; told++) {
                CHECKS.dueTrue(what + ", look " + told + " is a number", Numbers.isNumber(g, room.look(g, told)));
            }
            CHECKS.dueTrue(what + ", reach is a number", Numbers.isNumber(g, room.reach(g, g + 1)));
        }
    }

    private static boolean isInfinite(int g, long bits) {
        return bits == Numbers.of(g, Numbers.INFINITE) || bits == Numbers.of(g, -Numbers.INFINITE);
    }

    private static void toldInBits() {
        CHECKS.about("Told in BITS, a long: an INT is itself; of a FLOAT the 32 bits, as an INT; of a DOUBLE the 64 "
                + "bits");
        BalanceRoom room = new BalanceRoom();
        room.read(0, 0xffffffffL);
        CHECKS.dueBalance("an INT below 0", room, 0, 1, -1, -1, -1, 0, 0);
        CHECKS.due("shown", -1, () -> room.show(0));
        room.read(8, 0);
        room.read(8, 0x80000000L);
        CHECKS.dueBalance("a FLOAT with its sign bit", room, 8, 2, -2147483648L, -2147483648L, 0, 0, -2147483648L);
        CHECKS.due("shown", -2147483648L, () -> room.show(8));
        room.read(9, 0x3f800000L);
        room.read(9, 0xbf800000L);
        CHECKS.dueBalance("-1.0", room, 9, 2, -1082130432L, -1082130432L, 0x3f800000L, 0x40000000L, -1082130432L);
        CHECKS.due("reach is above 0", 0x3f800000L, () -> room.reach(8, 9));
        room.read(12, 0xbff0000000000000L);
        CHECKS.dueBalance("a DOUBLE", room, 12, 1, -4616189618054758400L, -4616189618054758400L,
                -4616189618054758400L, 0, 0);
        CHECKS.due("shown", -4616189618054758400L, () -> room.show(12));
    }
}
