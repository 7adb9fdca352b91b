/** The edges that promises 1 to 11 name, a method for each sentence. */
public final class PromiseEdgesTest {
    private static final int NONE = BalanceRoom.NONE;

    private static final Checks CHECKS = new Checks();

    public static void main(String[] args) {
        withoutAReading();
        anEmptyTape();
        theLowest32Bits();
        all64Bits();
        readNoSuchBalance();
        readNotANumber();
        orderCodes();
        for (int code = 0; code <= 12; code++) {
            orderOperands(code);
        }
        orderThereAre12();
        wipeEmpty();
        wipeFull();
        for (int g : Numbers.EACH) {
            showAndKeepRefused(g);
            keepIsAReading(g);
            keepAgainstItself(g);
        }
        showAndKeepNoSuchBalance();
        showAndKeepNoReading();
        for (int g : Numbers.POINTS) {
            meetOfInfiniteOnes(g);
            meetOfWhatCameAhead(g);
            firstRefusedCounts(g);
        }
        failedNone();
        failedFromZeroOn();
        failedOfTheLatest();
        reachNoSuchBalance();
        reachUnlikeSorts();
        reachNoReading();
        reachOfWholeOnes();
        reachOfPoints();
        reachOfNow();
        topNoSuchSort();
        for (int g : Numbers.EACH) {
            topWithoutAny(g);
            topOfSeveral(g);
            topOnlyWithAReading(g);
        }
        lookNoSuchBalanceOrWhat();
        for (int g : Numbers.EACH) {
            lookTellsEach(g);
            forgetAsAtFirst(g);
        }
        forgetNoSuchBalance();
        CHECKS.end();
    }

    private static BalanceRoom with(int g, double... readings) {
        BalanceRoom room = new BalanceRoom();
        for (double v : readings) {
            room.read(g, Numbers.of(g, v));
        }
        return room;
    }

    private static void withoutAReading() {
        CHECKS.about("Promise 1: All balances without a reading");
        for (int g = 0; g < 16; g++) {
            int balance = g;
            BalanceRoom room = new BalanceRoom();
            CHECKS.due("COUNT of " + g, 0, () -> room.look(balance, Checks.COUNT));
            CHECKS.dueThrow("show(" + g + ")", Checks.STATE, () -> room.show(balance));
            CHECKS.dueThrow("reach(" + g + ", " + g + ")", Checks.STATE, () -> room.reach(balance, balance));
            CHECKS.due("forget(" + g + ")", 0, () -> room.forget(balance));
            CHECKS.due("the first reading of " + g, 1, () -> room.read(balance, 1));
        }
        BalanceRoom used = with(0, 1, 2);
        CHECKS.due("beside one that is used", 0, () -> new BalanceRoom().look(0, Checks.COUNT));
        CHECKS.due("which stays", 2, () -> used.look(0, Checks.COUNT));
    }

    private static void anEmptyTape() {
        CHECKS.about("Promise 1: an empty tape");
        CHECKS.due("wipe()", 0, () -> new BalanceRoom().wipe());
        CHECKS.due("the first order", 1, () -> new BalanceRoom().order(Checks.TURN, 0));
        CHECKS.due("no order is done", -4, () -> with(0, -4).show(0));
    }

    private static void theLowest32Bits() {
        CHECKS.about("Promise 2: of INTS, FLOATS the lowest 32 of these bits");
        long[] above = {0, 1L << 32, 0x7fffffffL << 32, 0x80000000L << 32, 0xffffffffL << 32, 0x7ff00000L << 32};
        long[] below = {0, 1, 0x7f800000L, 0x80000000L, 0xbf800000L, 0xff800000L};
        for (long high : above) {
            for (long low : below) {
                long want = (int) low;
                CHECKS.due("an INT " + (high | low), want, () -> readAndLook(0, high | low));
                CHECKS.due("a FLOAT " + (high | low), want, () -> readAndLook(8, high | low));
            }
        }
    }

    private static long readAndLook(int g, long bits) {
        BalanceRoom room = new BalanceRoom();
        room.read(g, bits);
        return room.look(g, Checks.NOW);
    }

    private static void all64Bits() {
        CHECKS.about("Promise 2: of LONGS, DOUBLES all 64");
        long[] bits = {1L << 32, 0x4000000080000000L, 0x3ff00000ffffffffL, Long.MIN_VALUE, Long.MIN_VALUE + 1,
            0x7f80000000000001L, 0x80000000L, 0x7fc00000L};
        for (long all : bits) {
            CHECKS.due("a LONG " + all, all, () -> readAndLook(4, all));
            CHECKS.due("a DOUBLE " + all, all, () -> readAndLook(12, all));
        }
    }

    private static void readNoSuchBalance() {
        CHECKS.about("Promise 2: IllegalArgumentException: there is no such balance");
        BalanceRoom room = new BalanceRoom();
        for (int g : Numbers.NO_BALANCE) {
            CHECKS.dueThrow("read(" + g + ", 1)", Checks.ARGUMENT, () -> room.read(g, 1));
            CHECKS.dueThrow("read(" + g + ", -1)", Checks.ARGUMENT, () -> room.read(g, -1));
        }
        CHECKS.due("the first balance", 1, () -> room.read(0, 1));
        CHECKS.due("the last balance", 1, () -> room.read(15, 1));
    }

    private static void readNotANumber() {
        CHECKS.about("Promise 2: IllegalArgumentException: .. it is not a number");
        long[] floats = {0x7f800001L, 0x7fc00000L, 0x7fffffffL, 0xff800001L, 0xffc00000L, 0xffffffffL,
            0x100000000L | 0x7f800001L, 0x3ff000007fffffffL};
        long[] doubles = {0x7ff0000000000001L, 0x7ff8000000000000L, 0x7fffffffffffffffL, 0xfff0000000000001L,
            0xfff8000000000000L, 0xffffffffffffffffL, 0x7ff00000ffffffffL};
        for (int i = 0; i < 4; i++) {
            int narrow = 8 + i;
            int wide = 12 + i;
            for (long bits : floats) {
                CHECKS.dueThrow("a FLOAT " + bits, Checks.ARGUMENT, () -> readAndLook(narrow, bits));
                CHECKS.due("as an INT", (int) bits, () -> readAndLook(0, bits));
            }
            for (long bits : doubles) {
                CHECKS.dueThrow("a DOUBLE " + bits, Checks.ARGUMENT, () -> readAndLook(wide, bits));
                CHECKS.due("as a LONG", bits, () -> readAndLook(4, bits));
            }
        }
    }

    private static void orderCodes() {
        CHECKS.about("Promise 3: the code is none of 0 .. 12");
        int[] none = {-1, 13, 14, 256, Integer.MIN_VALUE, Integer.MAX_VALUE};
        for (int code : none) {
            CHECKS.dueThrow("order(" + code + ", 0)", Checks.ARGUMENT, () -> new BalanceRoom().order(code, 0));
        }
        for (int code = 0; code <= 12; code++) {
            int which = code;
            CHECKS.due("order(" + code + ", 0)", 1, () -> new BalanceRoom().order(which, 0));
        }
    }

    private static int greatestOperand(int code) {
        switch (code) {
            case Checks.LIKE: case Checks.MORE: case Checks.LESS: case Checks.MEET: case Checks.HELD:
                return 15;
            case Checks.STEP:
                return 20;
            default:
                return 0;
        }
    }

    private static void orderOperands(int code) {
        CHECKS.about("Promise 3: or k is not 0 .. 15 (5, 6, 7, 9, 11), 0 .. 20 (8), 0 (all others)");
        for (int k = -3; k <= 40; k++) {
            int operand = k;
            BalanceRoom room = new BalanceRoom();
            if (k >= 0 && k <= greatestOperand(code)) {
                CHECKS.due("order(" + code + ", " + k + ")", 1, () -> room.order(code, operand));
                CHECKS.due("it is on the tape", 1, () -> room.wipe());
            } else {
                CHECKS.dueThrow("order(" + code + ", " + k + ")", Checks.ARGUMENT, () -> room.order(code, operand));
                CHECKS.due("it is not on the tape", 0, () -> room.wipe());
            }
        }
        BalanceRoom room = new BalanceRoom();
        CHECKS.dueThrow("the least k", Checks.ARGUMENT, () -> room.order(code, Integer.MIN_VALUE));
        CHECKS.dueThrow("the greatest k", Checks.ARGUMENT, () -> room.order(code, Integer.MAX_VALUE));
    }

    private static BalanceRoom fullRoom() {
        BalanceRoom room = with(0, 7);
        for (int i = 0; i < 12; i++) {
            room.order(Checks.TURN, 0);
        }
        return room;
    }

    private static void orderThereAre12() {
        CHECKS.about("Promise 3: how many there are .. IllegalStateException: there are 12");
        BalanceRoom room = new BalanceRoom();
        for (int i = 1; i <= 12; i++) {
            CHECKS.due("order " + i, i, () -> room.order(Checks.TURN, 0));
        }
        for (int code = 0; code <= 12; code++) {
            int which = code;
            CHECKS.dueThrow("one more", Checks.STATE, () -> room.order(which, greatestOperand(which)));
        }
        room.wipe();
        CHECKS.due("there is place again", 1, () -> room.order(Checks.TURN, 0));
    }

    private static void wipeEmpty() {
        CHECKS.about("Promise 4: The tape is empty: how many orders it had: none");
        BalanceRoom room = with(0, -4);
        CHECKS.due("a new one", 0, () -> room.wipe());
        CHECKS.due("once more", 0, () -> room.wipe());
        CHECKS.dueThrow("a refused order", Checks.ARGUMENT, () -> room.order(13, 0));
        CHECKS.due("was none", 0, () -> room.wipe());
        CHECKS.due("nothing else changes", -4, () -> room.show(0));
    }

    private static void wipeFull() {
        CHECKS.about("Promise 4: The tape is empty: how many orders it had: 12");
        BalanceRoom room = fullRoom();
        CHECKS.due("12", 12, () -> room.wipe());
        CHECKS.due("none is left", 0, () -> room.wipe());
        CHECKS.due("no order is done", 7, () -> room.show(0));
        for (int i = 1; i <= 12; i++) {
            CHECKS.due("filled again", i, () -> room.order(Checks.SIGN, 0));
        }
        CHECKS.due("with the new orders alone", 1, () -> room.show(0));
        CHECKS.dueThrow("12 are the most again", Checks.STATE, () -> room.order(Checks.SIGN, 0));
        CHECKS.dueBalance("the balance stays", room, 0, 1, 7, 7, 7, 0, 0);
        BalanceRoom thirteen = fullRoom();
        CHECKS.dueThrow("one too many", Checks.STATE, () -> thirteen.order(Checks.TURN, 0));
        CHECKS.due("does not count", 12, () -> thirteen.wipe());
    }

    private static void showAndKeepNoSuchBalance() {
        CHECKS.about("Promises 5, 6: IllegalArgumentException: there is no such balance");
        BalanceRoom room = fullRoom();
        for (int g : Numbers.NO_BALANCE) {
            CHECKS.dueThrow("show(" + g + ")", Checks.ARGUMENT, () -> room.show(g));
            CHECKS.dueThrow("keep(" + g + ")", Checks.ARGUMENT, () -> room.keep(g));
        }
        BalanceRoom last = with(15, 2);
        CHECKS.due("the last balance", Numbers.of(15, 2), () -> last.show(15));
        CHECKS.due("the last balance", 2, () -> last.keep(15));
    }

    private static void showAndKeepNoReading() {
        CHECKS.about("Promises 5, 6: IllegalStateException: it has no READING");
        for (int g = 0; g < 16; g++) {
            int balance = g;
            BalanceRoom room = with(g ^ 1, 5);
            CHECKS.dueThrow("show(" + g + ")", Checks.STATE, () -> room.show(balance));
            CHECKS.dueThrow("keep(" + g + ")", Checks.STATE, () -> room.keep(balance));
            CHECKS.dueBalance("it still has none", room, g, 0, 0, 0, 0, 0, 0);
            room.read(g, 0);
            CHECKS.due("with one that is 0", 0, () -> room.show(balance));
            room.forget(g);
            CHECKS.dueThrow("forgotten", Checks.STATE, () -> room.show(balance));
            CHECKS.dueThrow("forgotten", Checks.STATE, () -> room.keep(balance));
        }
    }

    private static void showAndKeepRefused(int g) {
        CHECKS.about("Promises 5, 6: IllegalStateException: .. or an order is refused but for MEET's infinite ones");
        int other = (g + 4) % 16;
        int[] against = {Checks.LIKE, Checks.MORE, Checks.LESS, Checks.MEET, Checks.HELD};
        for (int code : against) {
            BalanceRoom room = with(g, 5);
            room.read(other, Numbers.of(other, 5));
            room.order(Checks.SIGN, 0);
            room.order(code, other);
            CHECKS.dueThrow("show, another sort", Checks.STATE, () -> room.show(g));
            CHECKS.dueThrow("keep, another sort", Checks.STATE, () -> room.keep(g));
            room.wipe();
            room.order(code, g + 3);
            CHECKS.dueThrow("show, no reading", Checks.STATE, () -> room.show(g));
            CHECKS.dueThrow("keep, no reading", Checks.STATE, () -> room.keep(g));
            long five = Numbers.of(g, 5);
            CHECKS.dueBalance("nothing was kept", room, g, 1, five, five, five, 0, 0);
        }
    }

    private static void meetOfInfiniteOnes(int g) {
        CHECKS.about("Promises 5, 6: ArithmeticException: MEET is refused for these");
        double[] signs = {1, -1};
        for (double sign : signs) {
            BalanceRoom room = with(g, sign * Numbers.INFINITE);
            room.read(g + 1, Numbers.of(g, -sign * Numbers.INFINITE));
            room.order(Checks.MEET, g + 1);
            CHECKS.dueThrow("show", Checks.ARITHMETIC, () -> room.show(g));
            CHECKS.dueThrow("keep", Checks.ARITHMETIC, () -> room.keep(g));
            CHECKS.due("COUNT stays", 1, () -> room.look(g, Checks.COUNT));
            room.read(g + 1, Numbers.greatestFinite(g));
            CHECKS.due("with a finite one it is done", Numbers.of(g, sign * Numbers.INFINITE), () -> room.show(g));
            room.forget(g + 1);
            CHECKS.dueThrow("without a reading it is refused for that", Checks.STATE, () -> room.show(g));
        }
    }

    private static void meetOfWhatCameAhead(int g) {
        CHECKS.about("Promises 5, 6: ArithmeticException: for what came of the order ahead");
        BalanceRoom room = with(g, Numbers.INFINITE);
        room.order(Checks.TURN, 0);
        room.order(Checks.MEET, g);
        CHECKS.dueThrow("turned against itself", Checks.ARITHMETIC, () -> room.show(g));
        CHECKS.due("the second order", 1, () -> room.failed());
        room.wipe();
        room.read(g + 1, Numbers.of(g, -Numbers.INFINITE));
        room.order(Checks.SIGN, 0);
        room.order(Checks.MEET, g + 1);
        CHECKS.due("finite by then", Numbers.of(g, -Numbers.INFINITE), () -> room.show(g));
        room.wipe();
        room.read(g + 2, Numbers.greatestFinite(g));
        room.order(Checks.MEET, g + 2);
        room.order(Checks.MEET, g + 1);
        CHECKS.dueThrow("infinite by then", Checks.ARITHMETIC, () -> room.show(g + 2));
        CHECKS.due("the second order", 1, () -> room.failed());
    }

    private static void firstRefusedCounts(int g) {
        CHECKS.about("Promises 5, 6: the first order that is refused counts");
        BalanceRoom room = with(g, Numbers.INFINITE);
        room.read(g + 1, Numbers.of(g, -Numbers.INFINITE));
        room.order(Checks.SIZE, 0);
        room.order(Checks.MEET, g + 1);
        room.order(Checks.MORE, 0);
        CHECKS.dueThrow("MEET stands ahead", Checks.ARITHMETIC, () -> room.show(g));
        CHECKS.due("MEET stands ahead", 1, () -> room.failed());
        CHECKS.dueThrow("MEET stands ahead", Checks.ARITHMETIC, () -> room.keep(g));
        CHECKS.due("MEET stands ahead", 1, () -> room.failed());
        room.wipe();
        room.order(Checks.SIZE, 0);
        room.order(Checks.SIZE, 0);
        room.order(Checks.MORE, 0);
        room.order(Checks.MEET, g + 1);
        CHECKS.dueThrow("MORE stands ahead", Checks.STATE, () -> room.show(g));
        CHECKS.due("MORE stands ahead", 2, () -> room.failed());
        CHECKS.dueThrow("MORE stands ahead", Checks.STATE, () -> room.keep(g));
        CHECKS.due("MORE stands ahead", 2, () -> room.failed());
    }

    private static void keepIsAReading(int g) {
        CHECKS.about("Promise 6: what comes is a READING of balance g: its COUNT then");
        BalanceRoom room = with(g, 6);
        room.order(Checks.TURN, 0);
        long six = Numbers.of(g, 6);
        long minusSix = Numbers.of(g, -6);
        long twelve = Numbers.of(g, 12);
        CHECKS.due("turned", 2, () -> room.keep(g));
        CHECKS.dueBalance("turned", room, g, 2, minusSix, minusSix, six, twelve, Numbers.of(g, -1));
        CHECKS.due("turned back", 3, () -> room.keep(g));
        CHECKS.dueBalance("turned back", room, g, 3, six, minusSix, six, twelve, Numbers.of(g, 1));
        CHECKS.due("the tape stays", 1, () -> room.wipe());
        CHECKS.due("NOW once more", 4, () -> room.keep(g));
        CHECKS.dueBalance("NOW once more", room, g, 4, six, minusSix, six, twelve, 0);
        CHECKS.dueBalance("the next balance", room, g + 1, 0, 0, 0, 0, 0, 0);
        CHECKS.due("show keeps nothing", six, () -> room.show(g));
        CHECKS.due("show keeps nothing", 4, () -> room.look(g, Checks.COUNT));
    }

    /** While the tape is done the balance has what it had before. */
    private static void keepAgainstItself(int g) {
        CHECKS.about("Promise 6: Likewise: what an order is set against is what the balance had");
        BalanceRoom room = with(g, 8, 4);
        room.order(Checks.TURN, 0);
        room.order(Checks.MEET, g);
        room.order(Checks.HELD, g);
        CHECKS.due("held between 4 and 8", Numbers.of(g, 4), () -> room.show(g));
        CHECKS.due("kept", 3, () -> room.keep(g));
        CHECKS.dueBalance("kept", room, g, 3, Numbers.of(g, 4), Numbers.of(g, 4), Numbers.of(g, 8),
                Numbers.of(g, 4), 0);
    }

    private static void failedNone() {
        CHECKS.about("Promise 7: NONE, if none was, or before any");
        BalanceRoom room = with(0, 1);
        CHECKS.due("before any", NONE, () -> room.failed());
        room.order(Checks.MORE, 4);
        CHECKS.due("the order is not done yet", NONE, () -> room.failed());
        room.wipe();
        room.show(0);
        CHECKS.due("an empty tape", NONE, () -> room.failed());
        room.order(Checks.MORE, 0);
        room.show(0);
        CHECKS.due("an order that was done", NONE, () -> room.failed());
        room.keep(0);
        CHECKS.due("kept", NONE, () -> room.failed());
    }

    private static void failedFromZeroOn() {
        CHECKS.about("Promise 7: The number (from 0 on) of the order that was refused");
        for (int place = 0; place < 12; place++) {
            BalanceRoom room = with(0, 1);
            for (int i = 0; i < 12; i++) {
                room.order(i < place ? Checks.TURN : Checks.HELD, i < place ? 0 : 1);
            }
            CHECKS.dueThrow("show", Checks.STATE, () -> room.show(0));
            CHECKS.due("show", place, () -> room.failed());
            room.wipe();
            room.show(0);
            for (int i = 0; i <= place; i++) {
                room.order(i < place ? Checks.TURN : Checks.LIKE, i < place ? 0 : 4);
            }
            CHECKS.dueThrow("keep", Checks.STATE, () -> room.keep(0));
            CHECKS.due("keep", place, () -> room.failed());
        }
    }

    /** Balance 0 is refused by order 1, balance 4 by order 2; the others have no reading. */
    private static BalanceRoom refusing() {
        BalanceRoom room = with(0, 1);
        room.read(4, 1);
        room.order(Checks.TURN, 0);
        room.order(Checks.MORE, 4);
        room.order(Checks.LESS, 0);
        CHECKS.dueThrow("refused", Checks.STATE, () -> room.show(0));
        CHECKS.due("refused", 1, () -> room.failed());
        return room;
    }

    private static void failedOfTheLatest() {
        CHECKS.about("Promise 7: in the latest show() or keep()");
        BalanceRoom room = refusing();
        CHECKS.dueThrow("another one", Checks.STATE, () -> room.keep(4));
        CHECKS.due("another one", 2, () -> room.failed());
        CHECKS.due("told twice", 2, () -> room.failed());
        room.read(1, 1);
        room.order(Checks.SIZE, 0);
        room.reach(0, 1);
        room.top(0, true);
        room.look(0, 0);
        room.forget(1);
        room.wipe();
        CHECKS.dueThrow("a call that throws", Checks.ARGUMENT, () -> room.read(16, 0));
        CHECKS.due("other calls leave it", 2, () -> room.failed());
        room.show(0);
        CHECKS.due("show() that is done", NONE, () -> room.failed());
        BalanceRoom kept = refusing();
        kept.wipe();
        kept.keep(0);
        CHECKS.due("keep() that is done", NONE, () -> kept.failed());
        CHECKS.about("Promise 7: NONE, if none was: the balance itself was the fault");
        BalanceRoom[] rooms = {refusing(), refusing(), refusing(), refusing()};
        CHECKS.dueThrow("show(16)", Checks.ARGUMENT, () -> rooms[0].show(16));
        CHECKS.dueThrow("keep(-1)", Checks.ARGUMENT, () -> rooms[1].keep(-1));
        CHECKS.dueThrow("show(5)", Checks.STATE, () -> rooms[2].show(5));
        CHECKS.dueThrow("keep(8)", Checks.STATE, () -> rooms[3].keep(8));
        for (BalanceRoom each : rooms) {
            CHECKS.due("no order was refused", NONE, () -> each.failed());
        }
    }

    private static void reachNoSuchBalance() {
        CHECKS.about("Promise 8: IllegalArgumentException: one of them is none");
        BalanceRoom room = with(0, 1);
        for (int g : Numbers.NO_BALANCE) {
            CHECKS.dueThrow("reach(" + g + ", 0)", Checks.ARGUMENT, () -> room.reach(g, 0));
            CHECKS.dueThrow("reach(0, " + g + ")", Checks.ARGUMENT, () -> room.reach(0, g));
            CHECKS.dueThrow("reach(" + g + ", " + g + ")", Checks.ARGUMENT, () -> room.reach(g, g));
            CHECKS.dueThrow("reach(9, " + g + ")", Checks.ARGUMENT, () -> room.reach(9, g));
        }
    }

    private static void reachUnlikeSorts() {
        CHECKS.about("Promise 8: IllegalStateException: they are of unlike sorts");
        BalanceRoom room = new BalanceRoom();
        for (int g = 0; g < 16; g++) {
            room.read(g, 0);
        }
        for (int a = 0; a < 16; a++) {
            for (int b = 0; b < 16; b++) {
                int one = a;
                int other = b;
                if (a / 4 == b / 4) {
                    CHECKS.due("reach(" + a + ", " + b + ")", 0, () -> room.reach(one, other));
                } else {
                    CHECKS.dueThrow("reach(" + a + ", " + b + ")", Checks.STATE, () -> room.reach(one, other));
                }
            }
        }
    }

    private static void reachNoReading() {
        CHECKS.about("Promise 8: IllegalStateException: .. or one has no READING");
        for (int g : Numbers.EACH) {
            BalanceRoom room = with(g, 2);
            CHECKS.dueThrow("the second", Checks.STATE, () -> room.reach(g, g + 1));
            CHECKS.dueThrow("the first", Checks.STATE, () -> room.reach(g + 1, g));
            CHECKS.dueThrow("both", Checks.STATE, () -> room.reach(g + 1, g + 2));
            CHECKS.due("with itself", Numbers.of(g, 3), () -> room.reach(g, g));
            room.forget(g);
            CHECKS.dueThrow("forgotten", Checks.STATE, () -> room.reach(g, g));
        }
    }

    private static void dueReach(int g, long v, long w, long want) {
        BalanceRoom room = new BalanceRoom();
        room.read(g, v);
        room.read(g + 3, w);
        CHECKS.due("reach of " + v + " and " + w + " in " + g, want, () -> room.reach(g, g + 3));
        CHECKS.due("reach of " + w + " and " + v + " in " + g, want, () -> room.reach(g + 3, g));
    }

    private static void reachOfWholeOnes() {
        CHECKS.about("Promise 8: the greater of these and half of the lesser (of INTS, LONGS halved downwards) "
                + "together");
        for (int g : Numbers.WHOLE) {
            long least = Numbers.leastWhole(g);
            long greatest = Numbers.greatestWhole(g);
            dueReach(g, 0, 0, 0);
            dueReach(g, 1, 0, 1);
            dueReach(g, 1, -1, 1);
            dueReach(g, 4, -3, 5);
            dueReach(g, -5, 2, 6);
            dueReach(g, -5, -5, 7);
            dueReach(g, greatest, -1, greatest);
            dueReach(g, greatest, 3, least);
            // The SIZE of the least one is itself, and so the lesser of the two.
            dueReach(g, least, 0, least / 2);
            dueReach(g, least, -7, 7 + least / 2);
            dueReach(g, least, greatest, greatest + least / 2);
            dueReach(g, least, least, -(least / 2));
            dueReach(g, least + 1, 0, greatest);
        }
    }

    private static void reachOfPoints() {
        CHECKS.about("Promise 8: the greater of these and half of the lesser (* 0.5) together");
        for (int g : Numbers.POINTS) {
            long above = Numbers.of(g, Numbers.INFINITE);
            long below = Numbers.of(g, -Numbers.INFINITE);
            long minusZero = Numbers.of(g, -0.0);
            dueReach(g, Numbers.of(g, -3), Numbers.of(g, 4), Numbers.of(g, 5.5));
            dueReach(g, Numbers.of(g, -5), Numbers.of(g, -5), Numbers.of(g, 7.5));
            dueReach(g, minusZero, minusZero, 0);
            dueReach(g, minusZero, 0, 0);
            dueReach(g, above, below, above);
            dueReach(g, below, below, above);
            dueReach(g, below, minusZero, above);
            dueReach(g, Numbers.greatestFinite(g), Numbers.leastFinite(g), above);
            dueReach(g, Numbers.greatestFinite(g), Numbers.of(g, -1), Numbers.greatestFinite(g));
            dueReach(g, Numbers.tiny(g, -1), Numbers.tiny(g, 1), Numbers.tiny(g, 1));
            dueReach(g, Numbers.tiny(g, 2), Numbers.tiny(g, -1), Numbers.tiny(g, 2));
            dueReach(g, Numbers.tiny(g, -3), Numbers.tiny(g, 3), Numbers.tiny(g, 5));
        }
    }

    private static void reachOfNow() {
        CHECKS.about("Promise 8: with x, y the SIZES of their NOWS");
        for (int g : Numbers.EACH) {
            BalanceRoom room = with(g, -9, 9, 2);
            room.read(g + 1, Numbers.of(g, 20));
            room.read(g + 1, Numbers.of(g, -20));
            room.read(g + 1, Numbers.of(g, -8));
            CHECKS.due("reach", Numbers.of(g, 9), () -> room.reach(g, g + 1));
            CHECKS.due("reach", Numbers.of(g, 9), () -> room.reach(g + 1, g));
            CHECKS.dueBalance("it changes nothing", room, g + 1, 3, Numbers.of(g, -8), Numbers.of(g, -20),
                    Numbers.of(g, 20), Numbers.of(g, 40), Numbers.of(g, 1));
        }
    }

    private static void topNoSuchSort() {
        CHECKS.about("Promise 9: IllegalArgumentException: there is no such sort");
        int[] none = {-1, 4, 5, 15, 16, Integer.MIN_VALUE, Integer.MAX_VALUE};
        for (int sort : none) {
            CHECKS.dueThrow("top(" + sort + ", true)", Checks.ARGUMENT, () -> new BalanceRoom().top(sort, true));
            CHECKS.dueThrow("top(" + sort + ", false)", Checks.ARGUMENT, () -> new BalanceRoom().top(sort, false));
        }
    }

    private static void dueTop(BalanceRoom room, int g, int greatest, int least) {
        CHECKS.due("the greatest of sort " + g / 4, greatest, () -> room.top(g / 4, true));
        CHECKS.due("the least of sort " + g / 4, least, () -> room.top(g / 4, false));
    }

    private static void topWithoutAny(int g) {
        CHECKS.about("Promise 9: NONE without any");
        BalanceRoom room = new BalanceRoom();
        for (int i = 0; i < 16; i++) {
            if (i / 4 != g / 4) {
                room.read(i, 1);
            }
        }
        dueTop(room, g, NONE, NONE);
        room.read(g + 3, 0);
        dueTop(room, g, g + 3, g + 3);
        room.forget(g + 3);
        dueTop(room, g, NONE, NONE);
    }

    private static void topOfSeveral(int g) {
        CHECKS.about("Promise 9: of several the lowest number");
        double[] alike = {-4, 0, 9};
        for (double v : alike) {
            BalanceRoom room = with(g + 3, v);
            dueTop(room, g, g + 3, g + 3);
            for (int i = 2; i >= 0; i--) {
                room.read(g + i, Numbers.of(g, v));
                dueTop(room, g, g + i, g + i);
            }
        }
        BalanceRoom two = with(g, 1);
        two.read(g + 1, Numbers.of(g, 2));
        two.read(g + 2, Numbers.of(g, 2));
        two.read(g + 3, Numbers.of(g, 1));
        dueTop(two, g, g + 1, g);
        two.forget(g);
        dueTop(two, g, g + 1, g + 3);
        two.forget(g + 1);
        dueTop(two, g, g + 2, g + 3);
    }

    private static void topOnlyWithAReading(int g) {
        CHECKS.about("Promise 9: Of the balances of a sort that have a READING .. the greatest NOW .. or the least");
        BalanceRoom room = with(g + 2, -3);
        dueTop(room, g, g + 2, g + 2);
        room.read(g + 1, Numbers.of(g, -9));
        dueTop(room, g, g + 2, g + 1);
        room.read(g + 3, Numbers.of(g, 5));
        dueTop(room, g, g + 3, g + 1);
        room.read(g + 3, Numbers.of(g, -20));
        dueTop(room, g, g + 2, g + 3);
        room.read(g + 2, Numbers.of(g, -10));
        dueTop(room, g, g + 1, g + 3);
        room.read(g, g < 8 ? Numbers.leastWhole(g) : Numbers.of(g, -Numbers.INFINITE));
        dueTop(room, g, g + 1, g);
        room.read(g, g < 8 ? Numbers.greatestWhole(g) : Numbers.of(g, Numbers.INFINITE));
        dueTop(room, g, g, g + 3);
    }

    private static void lookNoSuchBalanceOrWhat() {
        CHECKS.about("Promise 10: IllegalArgumentException: there is no such balance or what");
        BalanceRoom room = with(0, 1);
        int[] nothing = {-1, 6, 7, Integer.MIN_VALUE, Integer.MAX_VALUE};
        for (int g : Numbers.NO_BALANCE) {
            for (int what = 0; what <= 5; what++) {
                int which = what;
                CHECKS.dueThrow("look(" + g + ", " + what + ")", Checks.ARGUMENT, () -> room.look(g, which));
            }
            CHECKS.dueThrow("look(" + g + ", 6)", Checks.ARGUMENT, () -> room.look(g, 6));
        }
        for (int what : nothing) {
            CHECKS.dueThrow("look(0, " + what + ")", Checks.ARGUMENT, () -> room.look(0, what));
            CHECKS.dueThrow("look(15, " + what + ")", Checks.ARGUMENT, () -> room.look(15, what));
        }
    }

    private static void lookTellsEach(int g) {
        CHECKS.about("Promise 10: 0 its COUNT; the bits of: 1 NOW, 2 LEAST, 3 GREATEST, 4 SWING, 5 TREND");
        BalanceRoom room = with(g, -2, 4, 1);
        CHECKS.due("COUNT", 3, () -> room.look(g, 0));
        CHECKS.due("NOW", Numbers.of(g, 1), () -> room.look(g, 1));
        CHECKS.due("LEAST", Numbers.of(g, -2), () -> room.look(g, 2));
        CHECKS.due("GREATEST", Numbers.of(g, 4), () -> room.look(g, 3));
        CHECKS.due("SWING", Numbers.of(g, 6), () -> room.look(g, 4));
        CHECKS.due("TREND", Numbers.of(g, -1), () -> room.look(g, 5));
    }

    private static void forgetAsAtFirst(int g) {
        CHECKS.about("Promise 11: Balance g is as at first: its COUNT as it was");
        BalanceRoom room = with(g, 5, 3, 8);
        room.read(g + 1, Numbers.of(g, 9));
        room.order(Checks.MORE, g + 1);
        CHECKS.dueBalance("before", room, g, 3, Numbers.of(g, 8), Numbers.of(g, 3), Numbers.of(g, 8),
                Numbers.of(g, 5), Numbers.of(g, 1));
        CHECKS.due("three", 3, () -> room.forget(g));
        CHECKS.dueBalance("as at first", room, g, 0, 0, 0, 0, 0, 0);
        CHECKS.dueThrow("it has no reading", Checks.STATE, () -> room.show(g));
        CHECKS.due("none", 0, () -> room.forget(g));
        CHECKS.dueBalance("the next one stays", room, g + 1, 1, Numbers.of(g, 9), Numbers.of(g, 9), Numbers.of(g, 9),
                0, 0);
        CHECKS.due("a first one", 1, () -> room.read(g, Numbers.of(g, -6)));
        CHECKS.dueBalance("a first one", room, g, 1, Numbers.of(g, -6), Numbers.of(g, -6), Numbers.of(g, -6), 0, 0);
        CHECKS.due("one", 1, () -> room.forget(g));
        CHECKS.due("the tape stays", 1, () -> room.wipe());
    }

    private static void forgetNoSuchBalance() {
        CHECKS.about("Promise 11: IllegalArgumentException: there is no such balance");
        BalanceRoom room = with(15, 1);
        for (int g : Numbers.NO_BALANCE) {
            CHECKS.dueThrow("forget(" + g + ")", Checks.ARGUMENT, () -> room.forget(g));
        }
        CHECKS.due("the last balance", 1, () -> room.forget(15));
        CHECKS.due("the first balance", 0, () -> room.forget(0));
    }
}
