/** The edges in "Terms": orders that are refused, THE TAPE, and calls that throw. */
public final class TapeEdgesTest {
    private static final int[] AGAINST = {Checks.LIKE, Checks.MORE, Checks.LESS, Checks.MEET, Checks.HELD};
    private static final int[] ALONE = {Checks.SIZE, Checks.DOWN, Checks.UP, Checks.NEAR, Checks.SIGN, Checks.TURN,
        Checks.PART};

    private static final Checks CHECKS = new Checks();

    private interface Act {
        long on(BalanceRoom room);
    }

    public static void main(String[] args) {
        for (int code : AGAINST) {
            refusedOfAnotherSort(code);
            refusedWithoutAReading(code);
        }
        othersAreNeverRefused();
        twelveOrders();
        withoutOrders();
        eachOnWhatCameAhead();
        argumentsChangeNothing();
        fullTapeChangesNothing();
        refusedOrdersChangeNothing();
        firstOfSeveralExceptions();
        CHECKS.end();
    }

    private static BalanceRoom with(int g, double v) {
        BalanceRoom room = new BalanceRoom();
        room.read(g, Numbers.of(g, v));
        return room;
    }

    private static void refusedOfAnotherSort(int code) {
        CHECKS.about("Refused are 5, 6, 7, 9, 11, too, if balance k is of another sort than v");
        for (int g = 0; g < 16; g++) {
            for (int k = 0; k < 16; k++) {
                int balance = g;
                BalanceRoom room = with(g, 3);
                room.read(k, Numbers.of(k, 3));
                room.order(code, k);
                String what = "order " + code + ", " + k + " on " + g;
                if (g / 4 == k / 4) {
                    CHECKS.due(what, Numbers.of(g, 3), () -> room.show(balance));
                    CHECKS.due(what + ": failed()", -1, () -> room.failed());
                } else {
                    CHECKS.dueThrow(what, Checks.STATE, () -> room.show(balance));
                    CHECKS.due(what + ": failed()", 0, () -> room.failed());
                }
            }
        }
    }

    private static void refusedWithoutAReading(int code) {
        CHECKS.about("Refused are 5, 6, 7, 9, 11, too, if balance k .. has no READING");
        for (int g : Numbers.EACH) {
            BalanceRoom room = with(g, 3);
            room.order(code, g + 2);
            CHECKS.dueThrow("never read", Checks.STATE, () -> room.show(g));
            room.read(g + 2, Numbers.of(g, 3));
            CHECKS.due("read", Numbers.of(g, 3), () -> room.show(g));
            room.forget(g + 2);
            CHECKS.dueThrow("forgotten", Checks.STATE, () -> room.show(g));
            CHECKS.due("failed()", 0, () -> room.failed());
        }
    }

    private static void othersAreNeverRefused() {
        CHECKS.about("Refused are 5, 6, 7, 9, 11: the others are not");
        for (int g = 1; g < 16; g++) {
            int balance = g;
            for (int code : ALONE) {
                BalanceRoom room = with(g, 0);
                room.order(code, 0);
                room.order(Checks.SIZE, 0);
                CHECKS.due("order " + code + " on " + g, 0, () -> room.show(balance));
            }
            for (int k = 0; k <= 20; k++) {
                BalanceRoom room = with(g, 0);
                room.order(Checks.STEP, k);
                CHECKS.due("STEP " + k + " on " + g, 0, () -> room.show(balance));
            }
        }
    }

    private static void twelveOrders() {
        CHECKS.about("THE TAPE has at most 12 ORDERS");
        BalanceRoom room = with(0, 1);
        room.read(1, 1 << 20);
        for (int i = 1; i <= 12; i++) {
            int many = i;
            CHECKS.due("order " + i, i, () -> room.order(Checks.MEET, 1));
            long want = meetOften(many);
            CHECKS.due("with " + i + " orders", want, () -> room.show(0));
        }
        CHECKS.dueThrow("order 13", Checks.STATE, () -> room.order(Checks.TURN, 0));
        CHECKS.due("it is not done", meetOften(12), () -> room.show(0));
        CHECKS.due("there are 12", 12, () -> room.wipe());
    }

    private static long meetOften(int many) {
        long v = 1;
        for (int i = 0; i < many; i++) {
            v = (v + (1 << 20)) / 2;
        }
        return v;
    }

    private static void withoutOrders() {
        CHECKS.about("without orders it is NOW");
        for (int g : Numbers.EACH) {
            BalanceRoom room = with(g, 2);
            room.read(g, Numbers.of(g, -7));
            CHECKS.due("a new tape", Numbers.of(g, -7), () -> room.show(g));
            room.order(Checks.TURN, 0);
            room.wipe();
            CHECKS.due("a wiped tape", Numbers.of(g, -7), () -> room.show(g));
            CHECKS.due("kept", 3, () -> room.keep(g));
            CHECKS.dueBalance("kept", room, g, 3, Numbers.of(g, -7), Numbers.of(g, -7), Numbers.of(g, 2),
                    Numbers.of(g, 9), 0);
        }
    }

    private static void eachOnWhatCameAhead() {
        CHECKS.about("the first order on that, each further one on what came of the one ahead");
        BalanceRoom room = with(12, -2.75);
        room.read(13, Numbers.of(13, 10));
        room.order(Checks.SIZE, 0);
        room.order(Checks.MEET, 13);
        CHECKS.due("SIZE, MEET", Numbers.of(12, 6.375), () -> room.show(12));
        room.order(Checks.PART, 0);
        CHECKS.due("SIZE, MEET, PART", Numbers.of(12, 0.375), () -> room.show(12));
        room.order(Checks.MORE, 12);
        room.order(Checks.MEET, 12);
        CHECKS.due("w is NOW, whatever came ahead", Numbers.of(12, -1.1875), () -> room.show(12));
        room.keep(12);
        // On -1.1875: SIZE 1.1875, MEET 13 5.59375, PART 0.59375, MORE the same.
        CHECKS.due("and NOW is another one then", Numbers.of(12, (0.59375 - 1.1875) / 2), () -> room.show(12));
    }

    /** Readings of each sort, a tape that is done on balance 0, and an order, number 2, that others refuse. */
    private static BalanceRoom furnished(int orders) {
        BalanceRoom room = new BalanceRoom();
        for (int g = 0; g < 16; g++) {
            if (g % 4 != 3) {
                room.read(g, Numbers.of(g, 5 + g));
                room.read(g, Numbers.of(g, -3 * g));
            }
        }
        room.order(Checks.TURN, 0);
        room.order(Checks.STEP, 11);
        for (int i = 2; i < orders; i++) {
            room.order(Checks.MEET, i % 3);
        }
        CHECKS.dueThrow("order 2 is refused", Checks.STATE, () -> room.show(4));
        return room;
    }

    private static void dueUnchanged(String what, BalanceRoom room, BalanceRoom twin, int failed) {
        CHECKS.due(what + ": failed()", failed, () -> room.failed());
        for (int g = 0; g < 16; g++) {
            for (int told = Checks.COUNT; told <= Checks.TREND; told++) {
                int balance = g;
                int which = told;
                CHECKS.due(what + ": look(" + g + ", " + told + ")", twin.look(g, told),
                        () -> room.look(balance, which));
            }
        }
        CHECKS.due(what + ": the tape's orders", twin.show(0), () -> room.show(0));
        CHECKS.due(what + ": and on another balance", twin.show(2), () -> room.show(2));
        CHECKS.due(what + ": the tape's length", twin.wipe(), () -> room.wipe());
    }

    private static void dueThrow(String what, int orders, Class<? extends RuntimeException> thrown, int failed,
            Act act) {
        BalanceRoom room = furnished(orders);
        CHECKS.dueThrow(what, thrown, () -> act.on(room));
        dueUnchanged(what, room, furnished(orders), failed);
    }

    private static void argumentsChangeNothing() {
        CHECKS.about("A call that throws changes nothing but what failed() tells");
        Class<IllegalArgumentException> argument = Checks.ARGUMENT;
        for (int g : Numbers.NO_BALANCE) {
            dueThrow("read(" + g + ", 1)", 5, argument, 2, room -> room.read(g, 1));
            dueThrow("look(" + g + ", 0)", 5, argument, 2, room -> room.look(g, 0));
            dueThrow("forget(" + g + ")", 5, argument, 2, room -> room.forget(g));
            dueThrow("reach(" + g + ", 0)", 5, argument, 2, room -> room.reach(g, 0));
            dueThrow("reach(0, " + g + ")", 5, argument, 2, room -> room.reach(0, g));
            dueThrow("show(" + g + ")", 5, argument, -1, room -> room.show(g));
            dueThrow("keep(" + g + ")", 5, argument, -1, room -> room.keep(g));
            dueThrow("order(5, " + g + ")", 5, argument, 2, room -> room.order(Checks.LIKE, g));
        }
        dueThrow("a FLOAT that is none", 5, argument, 2, room -> room.read(8, 0x7fc00000L));
        dueThrow("a first FLOAT that is none", 5, argument, 2, room -> room.read(11, 0x7fc00000L));
        dueThrow("a DOUBLE that is none", 5, argument, 2, room -> room.read(12, -1));
        dueThrow("order(13, 0)", 5, argument, 2, room -> room.order(13, 0));
        dueThrow("order(-1, 0)", 5, argument, 2, room -> room.order(-1, 0));
        dueThrow("order(8, 21)", 5, argument, 2, room -> room.order(Checks.STEP, 21));
        dueThrow("order(0, 1)", 5, argument, 2, room -> room.order(Checks.SIZE, 1));
        dueThrow("top(4, true)", 5, argument, 2, room -> room.top(4, true));
        dueThrow("look(0, 6)", 5, argument, 2, room -> room.look(0, 6));
        dueThrow("reach of unlike sorts", 5, Checks.STATE, 2, room -> room.reach(0, 4));
        dueThrow("reach without a reading", 5, Checks.STATE, 2, room -> room.reach(0, 3));
    }

    private static void fullTapeChangesNothing() {
        CHECKS.about("A call that throws changes nothing but what failed() tells: the full tape");
        for (int code = 0; code <= 12; code++) {
            int which = code;
            dueThrow("order(" + code + ", 0) of a full tape", 12, Checks.STATE, 2, room -> room.order(which, 0));
        }
    }

    private static void refusedOrdersChangeNothing() {
        CHECKS.about("A call that throws changes nothing but what failed() tells: refused orders");
        dueThrow("show without a reading", 5, Checks.STATE, -1, room -> room.show(3));
        dueThrow("keep without a reading", 5, Checks.STATE, -1, room -> room.keep(3));
        dueThrow("show on another sort", 5, Checks.STATE, 2, room -> room.show(8));
        dueThrow("keep on another sort", 5, Checks.STATE, 2, room -> room.keep(8));
        for (int g : Numbers.POINTS) {
            BalanceRoom room = with(g, Numbers.INFINITE);
            long above = Numbers.of(g, Numbers.INFINITE);
            long below = Numbers.of(g, -Numbers.INFINITE);
            room.read(g + 1, below);
            room.order(Checks.NEAR, 0);
            room.order(Checks.MEET, g + 1);
            CHECKS.dueThrow("show", Checks.ARITHMETIC, () -> room.show(g));
            CHECKS.dueThrow("keep", Checks.ARITHMETIC, () -> room.keep(g));
            CHECKS.due("failed()", 1, () -> room.failed());
            CHECKS.dueBalance("the one", room, g, 1, above, above, above, 0, 0);
            CHECKS.dueBalance("the other", room, g + 1, 1, below, below, below, 0, 0);
            CHECKS.due("on the other one it is done", below, () -> room.show(g + 1));
            CHECKS.due("the tape", 2, () -> room.wipe());
        }
    }

    private static void firstOfSeveralExceptions() {
        CHECKS.about("Of several exceptions that hold the one that stands first is thrown");
        BalanceRoom full = furnished(12);
        CHECKS.dueThrow("a wrong code and a full tape", Checks.ARGUMENT, () -> full.order(13, 0));
        CHECKS.dueThrow("a wrong code below 0 and a full tape", Checks.ARGUMENT, () -> full.order(-1, 0));
        CHECKS.dueThrow("a wrong k and a full tape", Checks.ARGUMENT, () -> full.order(Checks.TURN, 1));
        CHECKS.dueThrow("an order's k is no balance, and a full tape", Checks.ARGUMENT,
                () -> full.order(Checks.LIKE, 16));
        CHECKS.dueThrow("a wrong step and a full tape", Checks.ARGUMENT, () -> full.order(Checks.STEP, 21));
        CHECKS.dueThrow("no such balance, and one without a reading", Checks.ARGUMENT, () -> full.reach(3, 16));
        CHECKS.dueThrow("the other way round", Checks.ARGUMENT, () -> full.reach(16, 3));
        CHECKS.dueThrow("no such balance and a tape with what is refused", Checks.ARGUMENT, () -> full.show(16));
        CHECKS.dueThrow("kept", Checks.ARGUMENT, () -> full.keep(16));
        BalanceRoom mixed = with(8, Numbers.INFINITE);
        mixed.read(12, Numbers.of(12, -Numbers.INFINITE));
        mixed.order(Checks.MEET, 12);
        CHECKS.dueThrow("MEET of infinite ones of unlike sorts", Checks.STATE, () -> mixed.show(8));
        CHECKS.dueThrow("kept", Checks.STATE, () -> mixed.keep(8));
        BalanceRoom none = new BalanceRoom();
        none.order(Checks.MEET, 12);
        CHECKS.dueThrow("no reading, and an order that is refused", Checks.STATE, () -> none.show(0));
        CHECKS.due("it was no order", -1, () -> none.failed());
    }
}
