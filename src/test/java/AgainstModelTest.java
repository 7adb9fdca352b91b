import java.util.Random;

/** Long runs of calls on the class and on the model: each call has to answer, or throw, the same in both. */
public final class AgainstModelTest {
    private static final int RUNS = 6000;
    // With the looks at its end a run stays within the 512 calls that the document promises.
    private static final int CALLS = 412;

    private static final Checks CHECKS = new Checks();

    private final Random random;
    private final BalanceRoom room = new BalanceRoom();
    private final Model model = new Model();
    private final String name;
    // The sort that most calls of the run are about, so that long tapes are done to their end, too; -1 for all.
    private final int home;

    private AgainstModelTest(int run) {
        random = new Random(run);
        home = run % 5 - 1;
        name = "run " + run;
    }

    public static void main(String[] args) {
        for (int run = 0; run < RUNS; run++) {
            new AgainstModelTest(run).go();
        }
        CHECKS.end();
    }

    private void go() {
        for (int i = 0; i < CALLS; i++) {
            oneCall(i);
        }
        for (int g = 0; g < 16; g++) {
            for (int what = 0; what < 6; what++) {
                int balance = g;
                int which = what;
                same(", end: look(" + g + ", " + what + ")", () -> room.look(balance, which),
                        () -> model.look(balance, which));
            }
        }
    }

    private void same(String call, Checks.Call got, Checks.Call due) {
        long want;
        try {
            want = due.answer();
        } catch (RuntimeException e) {
            CHECKS.dueThrow(name + call, e.getClass(), got);
            return;
        }
        CHECKS.due(name + call, want, got);
    }

    private void oneCall(int i) {
        int g = balance();
        int h = random.nextInt(3) == 0 ? balance() : g & ~3 | random.nextInt(4);
        int kind = random.nextInt(100);
        String at = ", call " + i + ": ";
        if (kind < 30) {
            long bits = bitsFor(g);
            same(at + "read(" + g + ", " + bits + ")", () -> room.read(g, bits), () -> model.read(g, bits));
        } else if (kind < 48) {
            int code = rare() ? random.nextInt(40) - 20 : random.nextInt(13);
            int k = operandFor(code, h);
            same(at + "order(" + code + ", " + k + ")", () -> room.order(code, k), () -> model.order(code, k));
        } else if (kind < 52) {
            same(at + "wipe()", () -> room.wipe(), () -> model.wipe());
        } else if (kind < 66) {
            same(at + "show(" + g + ")", () -> room.show(g), () -> model.show(g));
        } else if (kind < 76) {
            same(at + "keep(" + g + ")", () -> room.keep(g), () -> model.keep(g));
        } else if (kind < 81) {
            same(at + "failed()", () -> room.failed(), () -> model.failed());
        } else if (kind < 87) {
            same(at + "reach(" + g + ", " + h + ")", () -> room.reach(g, h), () -> model.reach(g, h));
        } else if (kind < 91) {
            int sort = rare() ? random.nextInt(12) - 4 : random.nextInt(4);
            boolean greatest = random.nextBoolean();
            same(at + "top(" + sort + ", " + greatest + ")", () -> room.top(sort, greatest),
                    () -> model.top(sort, greatest));
        } else if (kind < 98) {
            int what = rare() ? random.nextInt(20) - 7 : random.nextInt(6);
            same(at + "look(" + g + ", " + what + ")", () -> room.look(g, what), () -> model.look(g, what));
        } else {
            same(at + "forget(" + g + ")", () -> room.forget(g), () -> model.forget(g));
        }
    }

    private boolean rare() {
        return random.nextInt(40) == 0;
    }

    private int balance() {
        if (rare()) {
            return random.nextInt(60) - 20;
        }
        return home < 0 || rare() ? random.nextInt(16) : 4 * home + random.nextInt(4);
    }

    private int operandFor(int code, int balance) {
        if (rare()) {
            return random.nextInt(40) - 10;
        }
        switch (code) {
            case 5: case 6: case 7: case 9: case 11:
                return balance;
            case 8:
                return random.nextInt(21);
            default:
                return 0;
        }
    }

    private long bitsFor(int g) {
        switch (g / 4) {
            case 2:
                long high = random.nextInt(4) == 0 ? random.nextLong() << 32 : 0;
                return high ^ NumberPool.floatBits(random) & (high == 0 ? -1L : 0xffffffffL);
            case 3:
                return NumberPool.doubleBits(random);
            default:
                return NumberPool.wholeBits(random);
        }
    }
}
