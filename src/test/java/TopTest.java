/** Promise 9. */
public final class TopTest {
    public static void main(String[] args) {
        Checks checks = new Checks();
        ofSort(checks, 0, -3, 7, Integer.MIN_VALUE, Integer.MAX_VALUE);
        ofSort(checks, 1, -3, 7, Long.MIN_VALUE, Long.MAX_VALUE);
        ofSort(checks, 2, Checks.bits(-3f), Checks.bits(7f), Checks.bits(Float.NEGATIVE_INFINITY),
                Checks.bits(Float.POSITIVE_INFINITY));
        ofSort(checks, 3, Checks.bits(-3.0), Checks.bits(7.0), Checks.bits(Double.NEGATIVE_INFINITY),
                Checks.bits(Double.POSITIVE_INFINITY));
        zeros(checks, 2, Checks.bits(-0f));
        zeros(checks, 3, Checks.bits(-0.0));
        negativeFractions(checks);
        wrongInputs(checks);
        checks.end();
    }

    private static void dueTop(Checks checks, BalanceRoom room, int sort, int greatest, int least) {
        checks.due("top(" + sort + ", true)", greatest, () -> room.top(sort, true));
        checks.due("top(" + sort + ", false)", least, () -> room.top(sort, false));
    }

    private static void ofSort(Checks checks, int sort, long low, long high, long lowest, long highest) {
        BalanceRoom room = new BalanceRoom();
        int g = 4 * sort;
        dueTop(checks, room, sort, BalanceRoom.NONE, BalanceRoom.NONE);
        room.read(g + 2, low);
        dueTop(checks, room, sort, g + 2, g + 2);
        room.read(g + 3, low);
        dueTop(checks, room, sort, g + 2, g + 2);
        room.read(g + 1, low);
        dueTop(checks, room, sort, g + 1, g + 1);
        room.read(g + 3, high);
        dueTop(checks, room, sort, g + 3, g + 1);
        room.read(g + 2, lowest);
        dueTop(checks, room, sort, g + 3, g + 2);
        room.read(g, highest);
        dueTop(checks, room, sort, g, g + 2);
        room.read(g, low);
        dueTop(checks, room, sort, g + 3, g + 2);
        room.forget(g + 2);
        dueTop(checks, room, sort, g + 3, g);
        for (int other = 0; other < 4; other++) {
            if (other != sort) {
                dueTop(checks, room, other, BalanceRoom.NONE, BalanceRoom.NONE);
            }
        }
    }

    private static void zeros(Checks checks, int sort, long minus) {
        BalanceRoom room = new BalanceRoom();
        int g = 4 * sort;
        room.read(g, minus);
        room.read(g + 1, 0);
        room.read(g + 2, 0);
        room.read(g + 3, minus);
        dueTop(checks, room, sort, g + 1, g);
        room.forget(g);
        dueTop(checks, room, sort, g + 1, g + 3);
    }

    private static void negativeFractions(Checks checks) {
        BalanceRoom room = new BalanceRoom();
        room.read(8, Checks.bits(-1.25f));
        room.read(9, Checks.bits(-1.5f));
        dueTop(checks, room, 2, 8, 9);
        room.read(12, Checks.bits(-1.25));
        room.read(13, Checks.bits(-1.5));
        dueTop(checks, room, 3, 12, 13);
    }

    private static void wrongInputs(Checks checks) {
        BalanceRoom room = new BalanceRoom();
        int[] none = {-1, 4, 15, Integer.MIN_VALUE, Integer.MAX_VALUE};
        for (int sort : none) {
            checks.dueThrow("top(" + sort + ", true)", Checks.ARGUMENT, () -> room.top(sort, true));
            checks.dueThrow("top(" + sort + ", false)", Checks.ARGUMENT, () -> room.top(sort, false));
        }
    }
}
