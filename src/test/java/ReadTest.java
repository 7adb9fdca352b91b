/** Promise 2, and what a READING does. */
public final class ReadTest {
    private static final long HIGH = 0x7777777700000000L;

    public static void main(String[] args) {
        Checks checks = new Checks();
        ints(checks);
        longs(checks);
        floats(checks);
        doubles(checks);
        zeros(checks);
        infiniteOnes(checks);
        wrongInputs(checks);
        eachBalanceAlone(checks);
        checks.end();
    }

    private static void ints(Checks checks) {
        BalanceRoom room = new BalanceRoom();
        checks.due("first", 1, () -> room.read(0, HIGH | 5));
        checks.dueBalance("first", room, 0, 1, 5, 5, 5, 0, 0);
        checks.due("second", 2, () -> room.read(0, -3));
        checks.dueBalance("second", room, 0, 2, -3, -3, 5, 8, -1);
        checks.due("third", 3, () -> room.read(0, 1));
        checks.dueBalance("third", room, 0, 3, 1, -3, 5, 8, 1);
        checks.due("fourth", 4, () -> room.read(0, 1));
        checks.dueBalance("fourth", room, 0, 4, 1, -3, 5, 8, 0);

        BalanceRoom wide = new BalanceRoom();
        wide.read(3, Integer.MIN_VALUE);
        checks.due("wraps", 2, () -> wide.read(3, Integer.MAX_VALUE));
        checks.dueBalance("D is -1", wide, 3, 2, Integer.MAX_VALUE, Integer.MIN_VALUE, Integer.MAX_VALUE, 1, -1);
        wide.read(3, -1);
        checks.dueBalance("D is the least", wide, 3, 3, -1, Integer.MIN_VALUE, Integer.MAX_VALUE, 1, -1);
        checks.due("the bit 31 is the sign", 4, () -> wide.read(3, 0x80000001L));
        checks.due("the bit 31 is the sign", Integer.MIN_VALUE + 1, () -> wide.look(3, Checks.NOW));
    }

    private static void longs(Checks checks) {
        BalanceRoom room = new BalanceRoom();
        checks.due("first", 1, () -> room.read(4, HIGH | 5));
        checks.dueBalance("all 64 bits", room, 4, 1, HIGH | 5, HIGH | 5, HIGH | 5, 0, 0);
        room.read(4, Long.MAX_VALUE);
        room.read(4, Long.MIN_VALUE);
        checks.dueBalance("D wraps to 1", room, 4, 3, Long.MIN_VALUE, Long.MIN_VALUE, Long.MAX_VALUE,
                Long.MAX_VALUE - (HIGH | 5), 1);
        room.read(4, 0);
        checks.dueBalance("D is the least, and so is its SIZE", room, 4, 4, 0, Long.MIN_VALUE, Long.MAX_VALUE,
                Long.MAX_VALUE - (HIGH | 5), -1);
    }

    private static void floats(Checks checks) {
        BalanceRoom room = new BalanceRoom();
        checks.due("first", 1, () -> room.read(11, HIGH | Checks.bits(1.5f)));
        checks.dueBalance("the lowest 32 bits", room, 11, 1, Checks.bits(1.5f), Checks.bits(1.5f), Checks.bits(1.5f),
                0, 0);
        checks.due("second, with its high bits 0", 2, () -> room.read(11, Checks.bits(-2.25f) & 0xffffffffL));
        checks.dueBalance("told with its sign", room, 11, 2, Checks.bits(-2.25f), Checks.bits(-2.25f),
                Checks.bits(1.5f), Checks.bits(3.75f), Checks.bits(-1f));
        room.read(11, Checks.bits(1e-10f));
        checks.dueBalance("rounded", room, 11, 3, Checks.bits(1e-10f), Checks.bits(-2.25f), Checks.bits(1.5f),
                Checks.bits(3.75f), Checks.bits(1f));
        room.read(11, Checks.bits(Float.MAX_VALUE));
        room.read(11, Checks.bits(-Float.MAX_VALUE));
        checks.dueBalance("over all", room, 11, 5, Checks.bits(-Float.MAX_VALUE), Checks.bits(-Float.MAX_VALUE),
                Checks.bits(Float.MAX_VALUE), Checks.bits(Float.POSITIVE_INFINITY), Checks.bits(-1f));
    }

    private static void doubles(Checks checks) {
        BalanceRoom room = new BalanceRoom();
        room.read(15, Checks.bits(0.1));
        checks.due("second", 2, () -> room.read(15, Checks.bits(0.3)));
        checks.dueBalance("rounded", room, 15, 2, Checks.bits(0.3), Checks.bits(0.1), Checks.bits(0.3),
                Checks.bits(0.3 - 0.1), Checks.bits(1.0));
        room.read(15, Checks.bits(Double.MIN_VALUE));
        room.read(15, 0);
        checks.dueBalance("the least one that is not 0 counts", room, 15, 4, 0, 0, Checks.bits(0.3), Checks.bits(0.3),
                Checks.bits(-1.0));
    }

    private static void zeros(Checks checks) {
        BalanceRoom room = new BalanceRoom();
        long minus = Checks.bits(-0.0);
        room.read(12, 0);
        room.read(12, minus);
        checks.dueBalance("0.0, -0.0", room, 12, 2, minus, minus, 0, 0, minus);
        room.read(12, minus);
        checks.dueBalance("-0.0, -0.0", room, 12, 3, minus, minus, 0, 0, 0);
        room.read(12, 0);
        checks.dueBalance("-0.0, 0.0", room, 12, 4, 0, minus, 0, 0, 0);
        room.read(13, minus);
        room.read(13, 0);
        checks.dueBalance("-0.0 first", room, 13, 2, 0, minus, 0, 0, 0);
        long narrow = Checks.bits(-0.0f);
        room.read(8, 0);
        room.read(8, narrow);
        checks.dueBalance("0.0, -0.0 of FLOATS", room, 8, 2, narrow, narrow, 0, 0, narrow);
    }

    private static void infiniteOnes(Checks checks) {
        BalanceRoom room = new BalanceRoom();
        long most = Checks.bits(Double.POSITIVE_INFINITY);
        long least = Checks.bits(Double.NEGATIVE_INFINITY);
        room.read(12, most);
        room.read(12, most);
        checks.dueBalance("both infinite", room, 12, 2, most, most, most, 0, 0);
        room.read(12, least);
        checks.dueBalance("down", room, 12, 3, least, least, most, most, Checks.bits(-1.0));
        room.read(12, least);
        checks.dueBalance("both infinite below 0", room, 12, 4, least, least, most, most, 0);
        room.read(12, Checks.bits(1.0));
        checks.dueBalance("up", room, 12, 5, Checks.bits(1.0), least, most, most, Checks.bits(1.0));
        long narrow = Checks.bits(Float.NEGATIVE_INFINITY);
        room.read(8, narrow);
        room.read(8, narrow);
        checks.dueBalance("both infinite FLOATS", room, 8, 2, narrow, narrow, narrow, 0, 0);
    }

    private static void wrongInputs(Checks checks) {
        BalanceRoom room = new BalanceRoom();
        int[] none = {-1, 16, 17, Integer.MIN_VALUE, Integer.MAX_VALUE};
        for (int g : none) {
            checks.dueThrow("read(" + g + ", 1)", Checks.ARGUMENT, () -> room.read(g, 1));
        }
        long[] narrow = {0x7f800001L, 0x7fffffffL, 0xff800001L, 0xffffffffL, -1L, HIGH | 0x7fc00000L};
        long[] wide = {0x7ff0000000000001L, 0x7fffffffffffffffL, 0xfff0000000000001L, -1L};
        room.read(8, Checks.bits(2f));
        room.read(12, Checks.bits(2.0));
        for (long bits : narrow) {
            checks.dueThrow("read(8, " + bits + ")", Checks.ARGUMENT, () -> room.read(8, bits));
            checks.due("the same bits are an INT", (int) bits, () -> nowOf(room, 1, bits));
        }
        for (long bits : wide) {
            checks.dueThrow("read(12, " + bits + ")", Checks.ARGUMENT, () -> room.read(12, bits));
            checks.due("the same bits are a LONG", bits, () -> nowOf(room, 5, bits));
        }
        checks.dueBalance("unchanged", room, 8, 1, Checks.bits(2f), Checks.bits(2f), Checks.bits(2f), 0, 0);
        checks.dueBalance("unchanged", room, 12, 1, Checks.bits(2.0), Checks.bits(2.0), Checks.bits(2.0), 0, 0);
        checks.due("a FLOAT whose high bits would be no DOUBLE", 2, () -> room.read(8, 0x7ff0000100000000L));
    }

    private static long nowOf(BalanceRoom room, int g, long bits) {
        room.read(g, bits);
        return room.look(g, Checks.NOW);
    }

    private static void eachBalanceAlone(Checks checks) {
        BalanceRoom room = new BalanceRoom();
        for (int g = 0; g < 16; g++) {
            int balance = g;
            checks.due("first of " + g, 1, () -> room.read(balance, balance + 1));
        }
        for (int g = 0; g < 16; g++) {
            checks.dueBalance("alone", room, g, 1, g + 1, g + 1, g + 1, 0, 0);
        }
    }
}
