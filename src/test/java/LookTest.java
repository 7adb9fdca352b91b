/** Promise 10. */
public final class LookTest {
    public static void main(String[] args) {
        Checks checks = new Checks();
        BalanceRoom room = new BalanceRoom();
        for (int g = 0; g < 16; g++) {
            room.read(g, g / 4 == 2 ? Checks.bits(-2.5f) : g / 4 == 3 ? Checks.bits(-2.5) : -2);
            room.read(g, g / 4 == 2 ? Checks.bits(4.5f) : g / 4 == 3 ? Checks.bits(4.5) : 4);
            room.read(g, g / 4 == 2 ? Checks.bits(0.5f) : g / 4 == 3 ? Checks.bits(0.5) : 1);
        }
        for (int i = 0; i < 4; i++) {
            checks.dueBalance("INTS", room, i, 3, 1, -2, 4, 6, -1);
            checks.dueBalance("LONGS", room, 4 + i, 3, 1, -2, 4, 6, -1);
            checks.dueBalance("FLOATS", room, 8 + i, 3, Checks.bits(0.5f), Checks.bits(-2.5f), Checks.bits(4.5f),
                    Checks.bits(7f), Checks.bits(-1f));
            checks.dueBalance("DOUBLES", room, 12 + i, 3, Checks.bits(0.5), Checks.bits(-2.5), Checks.bits(4.5),
                    Checks.bits(7.0), Checks.bits(-1.0));
        }
        int[] none = {-1, 16, Integer.MIN_VALUE, Integer.MAX_VALUE};
        for (int g : none) {
            checks.dueThrow("look(" + g + ", 0)", Checks.ARGUMENT, () -> room.look(g, 0));
        }
        int[] nothing = {-1, 6, Integer.MIN_VALUE, Integer.MAX_VALUE};
        for (int what : nothing) {
            checks.dueThrow("look(0, " + what + ")", Checks.ARGUMENT, () -> room.look(0, what));
            checks.dueThrow("look(16, " + what + ")", Checks.ARGUMENT, () -> room.look(16, what));
        }
        checks.end();
    }
}
