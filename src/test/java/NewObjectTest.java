/** Promise 1. */
public final class NewObjectTest {
    public static void main(String[] args) {
        Checks checks = new Checks();
        BalanceRoom room = new BalanceRoom();
        for (int g = 0; g < 16; g++) {
            checks.dueBalance("new", room, g, 0, 0, 0, 0, 0, 0);
        }
        for (int sort = 0; sort < 4; sort++) {
            int s = sort;
            checks.due("top(" + s + ", true) of a new one", BalanceRoom.NONE, () -> room.top(s, true));
            checks.due("top(" + s + ", false) of a new one", BalanceRoom.NONE, () -> room.top(s, false));
        }
        checks.due("failed() of a new one", -1, () -> room.failed());
        checks.due("wipe() of a new one", 0, () -> room.wipe());
        checks.due("NONE", -1, () -> BalanceRoom.NONE);
        for (int g = 0; g < 16; g++) {
            int balance = g;
            checks.dueThrow("show(" + g + ") of a new one", Checks.STATE, () -> room.show(balance));
            checks.due("forget(" + g + ") of a new one", 0, () -> room.forget(balance));
        }

        BalanceRoom used = new BalanceRoom();
        used.read(0, 5);
        used.order(Checks.TURN, 0);
        BalanceRoom other = new BalanceRoom();
        checks.due("a new one beside a used one: wipe()", 0, () -> other.wipe());
        checks.due("a new one beside a used one: look(0, 0)", 0, () -> other.look(0, 0));
        checks.end();
    }
}
