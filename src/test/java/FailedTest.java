/** Promise 7. */
public final class FailedTest {
    public static void main(String[] args) {
        Checks checks = new Checks();
        BalanceRoom room = new BalanceRoom();
        checks.due("before any", -1, () -> room.failed());
        room.read(0, 1);
        checks.due("without orders", 1, () -> room.show(0));
        checks.due("none was refused", -1, () -> room.failed());
        eachPlace(checks);
        clearedByTheNext(checks);
        checks.end();
    }

    private static void eachPlace(Checks checks) {
        for (int place = 0; place < 12; place++) {
            BalanceRoom room = new BalanceRoom();
            room.read(12, Checks.bits(Double.POSITIVE_INFINITY));
            room.read(13, Checks.bits(Double.NEGATIVE_INFINITY));
            for (int i = 0; i < 12; i++) {
                room.order(i == place ? Checks.MEET : Checks.SIZE, i == place ? 13 : 0);
            }
            checks.dueThrow("show", Checks.ARITHMETIC, () -> room.show(12));
            checks.due("after show", place, () -> room.failed());
            room.forget(13);
            checks.dueThrow("keep", Checks.STATE, () -> room.keep(12));
            checks.due("after keep", place, () -> room.failed());
            checks.due("told twice", place, () -> room.failed());
        }
    }

    private static BalanceRoom withOneRefused() {
        BalanceRoom room = new BalanceRoom();
        room.read(0, 1);
        room.read(4, 1);
        room.order(Checks.SIZE, 0);
        room.order(Checks.MORE, 4);
        room.order(Checks.LESS, 5);
        try {
            room.show(0);
        } catch (IllegalStateException e) {
            return room;
        }
        throw new IllegalStateException("an order was not refused");
    }

    private static void clearedByTheNext(Checks checks) {
        BalanceRoom room = withOneRefused();
        checks.due("the first refused one of two", 1, () -> room.failed());
        room.read(0, 2);
        room.reach(0, 0);
        room.top(0, true);
        room.look(0, 0);
        room.forget(2);
        checks.dueThrow("another call that throws", Checks.ARGUMENT, () -> room.read(16, 0));
        checks.dueThrow("another call that throws", Checks.STATE, () -> room.reach(0, 4));
        checks.due("other calls leave it", 1, () -> room.failed());
        checks.dueThrow("another balance", Checks.STATE, () -> room.show(4));
        checks.due("another order", 2, () -> room.failed());
        room.wipe();
        checks.due("wipe leaves it", 2, () -> room.failed());
        checks.due("keep", 3, () -> room.keep(0));
        checks.due("keep clears it", -1, () -> room.failed());

        BalanceRoom second = withOneRefused();
        checks.dueThrow("no such balance", Checks.ARGUMENT, () -> second.show(16));
        checks.due("no order was refused in it", -1, () -> second.failed());
        BalanceRoom third = withOneRefused();
        checks.dueThrow("without a reading", Checks.STATE, () -> third.keep(1));
        checks.due("no order was refused in it, either", -1, () -> third.failed());
        BalanceRoom fourth = withOneRefused();
        checks.dueThrow("no such balance", Checks.ARGUMENT, () -> fourth.keep(-1));
        checks.due("nor in this one", -1, () -> fourth.failed());
    }
}
