/** Promise 6. */
public final class KeepTest {
    public static void main(String[] args) {
        Checks checks = new Checks();
        keptAsReading(checks);
        keptInEachSort(checks);
        wrongInputs(checks);
        checks.end();
    }

    private static void keptAsReading(Checks checks) {
        BalanceRoom room = new BalanceRoom();
        room.read(0, 6);
        checks.due("without orders", 2, () -> room.keep(0));
        checks.dueBalance("without orders", room, 0, 2, 6, 6, 6, 0, 0);
        room.order(Checks.TURN, 0);
        checks.due("turned", 3, () -> room.keep(0));
        checks.dueBalance("turned", room, 0, 3, -6, -6, 6, 12, -1);
        checks.due("turned again", 4, () -> room.keep(0));
        checks.dueBalance("turned again", room, 0, 4, 6, -6, 6, 12, 1);
        room.order(Checks.HELD, 0);
        checks.due("held between its own bounds", 5, () -> room.keep(0));
        checks.dueBalance("held", room, 0, 5, -6, -6, 6, 12, -1);
        checks.due("the tape stays", 2, () -> room.wipe());
    }

    private static void keptInEachSort(Checks checks) {
        BalanceRoom room = new BalanceRoom();
        room.order(Checks.TURN, 0);
        room.read(7, Long.MIN_VALUE);
        checks.due("the least LONG", 2, () -> room.keep(7));
        checks.dueBalance("the least LONG", room, 7, 2, Long.MIN_VALUE, Long.MIN_VALUE, Long.MIN_VALUE, 0, 0);
        room.read(8, Checks.bits(1.5f));
        checks.due("a FLOAT", 2, () -> room.keep(8));
        checks.dueBalance("a FLOAT", room, 8, 2, Checks.bits(-1.5f), Checks.bits(-1.5f), Checks.bits(1.5f),
                Checks.bits(3f), Checks.bits(-1f));
        room.read(15, 0);
        checks.due("-0.0", 2, () -> room.keep(15));
        checks.dueBalance("-0.0", room, 15, 2, Checks.bits(-0.0), Checks.bits(-0.0), 0, 0, Checks.bits(-0.0));
    }

    private static void wrongInputs(Checks checks) {
        BalanceRoom room = new BalanceRoom();
        int[] none = {-1, 16, Integer.MIN_VALUE, Integer.MAX_VALUE};
        for (int g : none) {
            checks.dueThrow("keep(" + g + ")", Checks.ARGUMENT, () -> room.keep(g));
        }
        checks.dueThrow("without a reading", Checks.STATE, () -> room.keep(12));
        checks.dueBalance("without a reading", room, 12, 0, 0, 0, 0, 0, 0);
        long most = Checks.bits(Double.POSITIVE_INFINITY);
        room.read(12, most);
        room.read(13, Checks.bits(Double.NEGATIVE_INFINITY));
        room.order(Checks.SIGN, 0);
        room.order(Checks.MEET, 11);
        checks.dueThrow("another sort", Checks.STATE, () -> room.keep(12));
        checks.dueBalance("another sort", room, 12, 1, most, most, most, 0, 0);
        checks.due("of the second order", 1, () -> room.failed());
        room.wipe();
        room.order(Checks.MEET, 13);
        checks.dueThrow("infinite ones", Checks.ARITHMETIC, () -> room.keep(12));
        checks.dueBalance("infinite ones", room, 12, 1, most, most, most, 0, 0);
        checks.due("the tape stays", 1, () -> room.wipe());
    }
}
