/** Promise 8. */
public final class ReachTest {
    public static void main(String[] args) {
        Checks checks = new Checks();
        ints(checks);
        longs(checks);
        floats(checks);
        doubles(checks);
        wrongInputs(checks);
        checks.end();
    }

    /** Both ways round, and with no change to the two. */
    private static void dueReach(Checks checks, int g, long v, long w, long want) {
        BalanceRoom room = new BalanceRoom();
        room.read(g, v);
        room.read(g + 1, w);
        checks.due("reach of " + v + " and " + w, want, () -> room.reach(g, g + 1));
        checks.due("reach of " + w + " and " + v, want, () -> room.reach(g + 1, g));
        checks.dueBalance("after reach", room, g, 1, v, v, v, 0, 0);
    }

    private static void ints(Checks checks) {
        int least = Integer.MIN_VALUE;
        int most = Integer.MAX_VALUE;
        dueReach(checks, 0, 4, -3, 5);
        dueReach(checks, 0, -5, -5, 7);
        dueReach(checks, 0, 0, 0, 0);
        dueReach(checks, 0, least, 1, 1 + (least >> 1));
        dueReach(checks, 0, least, least, least + (least >> 1));
        dueReach(checks, 0, most, -most, most + (most >> 1));
        BalanceRoom room = new BalanceRoom();
        room.read(2, -7);
        checks.due("with itself", 10, () -> room.reach(2, 2));
    }

    private static void longs(Checks checks) {
        long least = Long.MIN_VALUE;
        long most = Long.MAX_VALUE;
        dueReach(checks, 4, 4, -3, 5);
        dueReach(checks, 4, 1L << 40, 3, (1L << 40) + 1);
        dueReach(checks, 4, least, 1, 1 + (least >> 1));
        dueReach(checks, 4, least, least, least + (least >> 1));
        dueReach(checks, 4, most, most, most + (most >> 1));
    }

    private static void floats(Checks checks) {
        dueReach(checks, 8, Checks.bits(-3f), Checks.bits(4f), Checks.bits(5.5f));
        dueReach(checks, 8, Checks.bits(-0f), Checks.bits(-0f), 0);
        dueReach(checks, 8, Checks.bits(Float.MAX_VALUE), Checks.bits(-Float.MAX_VALUE),
                Checks.bits(Float.POSITIVE_INFINITY));
        dueReach(checks, 8, Checks.bits(Float.NEGATIVE_INFINITY), Checks.bits(Float.POSITIVE_INFINITY),
                Checks.bits(Float.POSITIVE_INFINITY));
        dueReach(checks, 8, 1, 1, 1);
        dueReach(checks, 8, 3, 3, 5);
        dueReach(checks, 8, Checks.bits(16777216f), Checks.bits(2f), Checks.bits(16777216f));
    }

    private static void doubles(Checks checks) {
        dueReach(checks, 12, Checks.bits(-3.0), Checks.bits(4.0), Checks.bits(5.5));
        dueReach(checks, 12, Checks.bits(0.1), Checks.bits(0.3), Checks.bits(0.3 + 0.1 * 0.5));
        dueReach(checks, 12, Checks.bits(Double.NEGATIVE_INFINITY), Checks.bits(1.0),
                Checks.bits(Double.POSITIVE_INFINITY));
        dueReach(checks, 12, 1, 0, 1);
        dueReach(checks, 12, 1, 1, 1);
        dueReach(checks, 12, 2, 3, 4);
    }

    private static void wrongInputs(Checks checks) {
        BalanceRoom room = new BalanceRoom();
        int[] none = {-1, 16, Integer.MIN_VALUE, Integer.MAX_VALUE};
        for (int g : none) {
            checks.dueThrow("reach(" + g + ", 0)", Checks.ARGUMENT, () -> room.reach(g, 0));
            checks.dueThrow("reach(0, " + g + ")", Checks.ARGUMENT, () -> room.reach(0, g));
        }
        checks.dueThrow("without any reading", Checks.STATE, () -> room.reach(0, 1));
        room.read(0, 1);
        checks.dueThrow("the second without a reading", Checks.STATE, () -> room.reach(0, 1));
        checks.dueThrow("the first without a reading", Checks.STATE, () -> room.reach(1, 0));
        room.read(4, 1);
        room.read(8, 1);
        room.read(12, 1);
        for (int a = 0; a < 16; a += 4) {
            for (int b = 0; b < 16; b += 4) {
                int one = a;
                int other = b;
                if (a != b) {
                    checks.dueThrow("unlike sorts", Checks.STATE, () -> room.reach(one, other));
                }
            }
        }
    }
}
