/** Promise 11. */
public final class ForgetTest {
    public static void main(String[] args) {
        Checks checks = new Checks();
        for (int g = 0; g < 16; g++) {
            forgotten(checks, g);
        }
        BalanceRoom room = new BalanceRoom();
        int[] none = {-1, 16, Integer.MIN_VALUE, Integer.MAX_VALUE};
        for (int g : none) {
            checks.dueThrow("forget(" + g + ")", Checks.ARGUMENT, () -> room.forget(g));
        }
        checks.end();
    }

    private static void forgotten(Checks checks, int g) {
        BalanceRoom room = new BalanceRoom();
        int next = g ^ 1;
        checks.due("nothing to forget", 0, () -> room.forget(g));
        room.read(next, 9);
        room.read(g, 5);
        room.read(g, 3);
        room.read(g, 8);
        room.order(Checks.SIZE, 0);
        checks.due("three readings", 3, () -> room.forget(g));
        checks.dueBalance("as at first", room, g, 0, 0, 0, 0, 0, 0);
        checks.dueThrow("without a reading again", Checks.STATE, () -> room.show(g));
        checks.dueBalance("the one next to it stays", room, next, 1, 9, 9, 9, 0, 0);
        checks.due("forgotten twice", 0, () -> room.forget(g));
        checks.due("a first reading again", 1, () -> room.read(g, 6));
        checks.dueBalance("a first reading again", room, g, 1, 6, 6, 6, 0, 0);
        checks.due("the tape stays", 1, () -> room.wipe());
    }
}
