import java.util.Random;

/** Single operations on FLOATS and DOUBLES, each against Java's own: many pairs of numbers near the edges. */
public final class ArithmeticTest {
    private static final int PAIRS = 150000;

    private static final Checks CHECKS = new Checks();

    public static void main(String[] args) {
        Random random = new Random(1);
        for (int i = 0; i < PAIRS; i++) {
            pair(8, NumberPool.floatBits(random), NumberPool.floatBits(random), random.nextInt(21));
            pair(12, NumberPool.doubleBits(random), NumberPool.doubleBits(random), random.nextInt(21));
        }
        nextToEachOther();
        CHECKS.end();
    }

    /** Sums of numbers at each distance of exponents, with rests just around the half of the last bit. */
    private static void nextToEachOther() {
        for (int apart = 0; apart < 60; apart++) {
            for (int last = -2; last <= 2; last++) {
                float narrow = (float) Math.scalb(1.0, -apart);
                double wide = Math.scalb(1.0, -apart);
                for (int own = -2; own <= 2; own++) {
                    pair(8, Checks.bits(1f) + own, Checks.bits(narrow) + last, 10);
                    pair(8, Checks.bits(1f) + own, Checks.bits(-narrow) + last, 10);
                    pair(12, Checks.bits(1.0) + own, Checks.bits(wide) + last, 10);
                    pair(12, Checks.bits(1.0) + own, Checks.bits(-wide) + last, 10);
                }
            }
        }
    }

    private static boolean isNumber(int g, long bits) {
        return !Double.isNaN(Model.number(g / 4, bits).doubleValue());
    }

    private static void pair(int g, long v, long w, int k) {
        if (!isNumber(g, v) || !isNumber(g, w)) {
            return;
        }
        BalanceRoom room = new BalanceRoom();
        Model model = new Model();
        room.read(g, v);
        model.read(g, v);
        room.read(g + 1, w);
        model.read(g + 1, w);
        String on = " of " + v + " and " + w;
        CHECKS.due("reach" + on, model.reach(g, g + 1), () -> room.reach(g, g + 1));
        for (int code = 0; code <= 12; code++) {
            boolean against = code == 5 || code == 6 || code == 7 || code == 9 || code == 11;
            int operand = against ? g + 1 : code == 8 ? k : 0;
            room.order(code, operand);
            model.order(code, operand);
            shown(code + ", " + operand + on, room, model, g);
            room.wipe();
            model.wipe();
        }
        room.read(g, w);
        model.read(g, w);
        CHECKS.due("SWING" + on, model.look(g, Checks.SWING), () -> room.look(g, Checks.SWING));
        CHECKS.due("TREND" + on, model.look(g, Checks.TREND), () -> room.look(g, Checks.TREND));
    }

    private static void shown(String what, BalanceRoom room, Model model, int g) {
        long want;
        try {
            want = model.show(g);
        } catch (ArithmeticException e) {
            CHECKS.dueThrow(what, Checks.ARITHMETIC, () -> room.show(g));
            return;
        }
        CHECKS.due(what, want, () -> room.show(g));
    }
}
