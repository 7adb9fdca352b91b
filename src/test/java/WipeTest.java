/** Promise 4. */
public final class WipeTest {
    public static void main(String[] args) {
        Checks checks = new Checks();
        BalanceRoom room = new BalanceRoom();
        checks.due("an empty tape", 0, () -> room.wipe());
        room.read(0, -4);
        room.order(Checks.SIZE, 0);
        room.order(Checks.MORE, 1);
        room.order(Checks.SIZE, 0);
        checks.dueThrow("an order is refused", Checks.STATE, () -> room.show(0));
        checks.due("three", 3, () -> room.wipe());
        checks.due("failed() stays", 1, () -> room.failed());
        checks.due("none is left", -4, () -> room.show(0));
        checks.due("wiped twice", 0, () -> room.wipe());
        room.order(Checks.TURN, 0);
        checks.due("only the new order is done", 4, () -> room.show(0));
        checks.due("one", 1, () -> room.wipe());
        checks.dueBalance("the balance stays", room, 0, 1, -4, -4, -4, 0, 0);
        checks.end();
    }
}
