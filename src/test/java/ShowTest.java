/** Promise 5: the tape as a whole; OrdersDoneTest has the single orders. */
public final class ShowTest {
    public static void main(String[] args) {
        Checks checks = new Checks();
        withoutOrders(checks);
        severalOrders(checks);
        noSuchBalance(checks);
        refusals(checks);
        changesNothing(checks);
        checks.end();
    }

    private static void withoutOrders(Checks checks) {
        BalanceRoom room = new BalanceRoom();
        long[] readings = {-5, Long.MIN_VALUE, Checks.bits(-0.0f), Checks.bits(1e300)};
        for (int sort = 0; sort < 4; sort++) {
            int g = 4 * sort + 3;
            long bits = readings[sort];
            room.read(g, bits);
            checks.due("NOW of " + g, bits, () -> room.show(g));
        }
    }

    private static void severalOrders(Checks checks) {
        BalanceRoom room = new BalanceRoom();
        room.read(12, Checks.bits(2.75));
        room.read(13, Checks.bits(10.0));
        room.order(Checks.TURN, 0);
        checks.due("TURN", Checks.bits(-2.75), () -> room.show(12));
        room.order(Checks.DOWN, 0);
        checks.due("TURN, DOWN", Checks.bits(-3.0), () -> room.show(12));
        room.order(Checks.MEET, 13);
        checks.due("TURN, DOWN, MEET", Checks.bits(3.5), () -> room.show(12));
        room.order(Checks.NEAR, 0);
        checks.due("TURN, DOWN, MEET, NEAR", Checks.bits(4.0), () -> room.show(12));
        room.order(Checks.MORE, 12);
        checks.due("against its own NOW", Checks.bits(4.0), () -> room.show(12));
        checks.due("on another balance", Checks.bits(2.75), () -> room.show(13));
    }

    private static void noSuchBalance(Checks checks) {
        int[] none = {-1, 16, Integer.MIN_VALUE, Integer.MAX_VALUE};
        for (int g : none) {
            checks.dueThrow("show(" + g + ")", Checks.ARGUMENT, () -> new BalanceRoom().show(g));
        }
    }

    private static void refusals(Checks checks) {
        int[] against = {Checks.LIKE, Checks.MORE, Checks.LESS, Checks.MEET, Checks.HELD};
        for (int code : against) {
            for (int g = 0; g < 16; g++) {
                for (int k = 0; k < 16; k++) {
                    refusal(checks, code, g, k);
                }
            }
        }
        infiniteOnesMeet(checks);
    }

    private static void refusal(Checks checks, int code, int g, int k) {
        BalanceRoom room = new BalanceRoom();
        room.read(g, 1);
        room.order(code, k);
        String what = "order " + code + ", " + k + " on balance " + g;
        if (g == k) {
            checks.due(what, 1, () -> room.show(g));
            return;
        }
        checks.dueThrow(what + " without a reading", Checks.STATE, () -> room.show(g));
        room.read(k, 1);
        if (g / 4 == k / 4) {
            checks.due(what, 1, () -> room.show(g));
        } else {
            checks.dueThrow(what + " of another sort", Checks.STATE, () -> room.show(g));
        }
    }

    private static void infiniteOnesMeet(Checks checks) {
        long most = Checks.bits(Double.POSITIVE_INFINITY);
        long least = Checks.bits(Double.NEGATIVE_INFINITY);
        BalanceRoom room = new BalanceRoom();
        room.read(12, most);
        room.read(13, least);
        room.read(14, most);
        room.order(Checks.MEET, 13);
        checks.dueThrow("infinite with unlike signs", Checks.ARITHMETIC, () -> room.show(12));
        room.order(Checks.MEET, 0);
        checks.dueThrow("the first refused order counts", Checks.ARITHMETIC, () -> room.show(12));
        room.wipe();
        room.order(Checks.MEET, 0);
        room.order(Checks.MEET, 13);
        checks.dueThrow("the first refused order counts here, too", Checks.STATE, () -> room.show(12));
        room.wipe();
        room.order(Checks.MEET, 14);
        checks.due("infinite with one sign", most, () -> room.show(12));
        checks.dueThrow("and the other way round", Checks.ARITHMETIC, () -> room.show(13));
        room.read(8, Checks.bits(Float.NEGATIVE_INFINITY));
        checks.dueThrow("infinite ones of unlike sorts", Checks.STATE, () -> room.show(8));
        room.read(9, Checks.bits(Float.POSITIVE_INFINITY));
        room.wipe();
        room.order(Checks.MEET, 9);
        checks.dueThrow("infinite FLOATS with unlike signs", Checks.ARITHMETIC, () -> room.show(8));
        room.forget(9);
        checks.dueThrow("a balance that is forgotten", Checks.STATE, () -> room.show(8));
    }

    private static void changesNothing(Checks checks) {
        BalanceRoom room = new BalanceRoom();
        room.read(0, 9);
        room.read(0, 4);
        room.order(Checks.TURN, 0);
        checks.due("shown", -4, () -> room.show(0));
        checks.due("shown again", -4, () -> room.show(0));
        checks.dueBalance("shown", room, 0, 2, 4, 4, 9, 5, -1);
        room.order(Checks.MORE, 4);
        checks.dueThrow("refused", Checks.STATE, () -> room.show(0));
        checks.dueBalance("refused", room, 0, 2, 4, 4, 9, 5, -1);
        checks.dueThrow("without a reading", Checks.STATE, () -> room.show(1));
        checks.dueThrow("no such balance", Checks.ARGUMENT, () -> room.show(16));
        checks.due("the tape stays", 2, () -> room.wipe());
    }
}
