/** What the tests share: calls with the answer that is due, and bits of numbers. */
final class Checks {
    static final Class<IllegalArgumentException> ARGUMENT = IllegalArgumentException.class;
    static final Class<IllegalStateException> STATE = IllegalStateException.class;
    static final Class<ArithmeticException> ARITHMETIC = ArithmeticException.class;

    static final int SIZE = 0;
    static final int DOWN = 1;
    static final int UP = 2;
    static final int NEAR = 3;
    static final int SIGN = 4;
    static final int LIKE = 5;
    static final int MORE = 6;
    static final int LESS = 7;
    static final int STEP = 8;
    static final int MEET = 9;
    static final int TURN = 10;
    static final int HELD = 11;
    static final int PART = 12;

    static final int COUNT = 0;
    static final int NOW = 1;
    static final int LEAST = 2;
    static final int GREATEST = 3;
    static final int SWING = 4;
    static final int TREND = 5;

    private static final int MOST_PRINTED = 40;

    private int made = 0;
    private int wrong = 0;
    private String sentence = "";

    interface Call {
        long answer();
    }

    /** The sentence of the document that the checks from here on are about. */
    void about(String words) {
        sentence = "'" + words + "': ";
    }

    void due(String what, long want, Call call) {
        made++;
        try {
            long got = call.answer();
            if (got != want) {
                say(what + " answered " + got + ", due is " + want);
            }
        } catch (RuntimeException e) {
            say(what + " threw " + e + ", due is " + want);
        }
    }

    /** Exactly that class: an exception of a class below it is not due. */
    void dueThrow(String what, Class<? extends RuntimeException> want, Call call) {
        made++;
        try {
            long got = call.answer();
            say(what + " answered " + got + ", due is " + want.getName());
        } catch (RuntimeException e) {
            if (e.getClass() != want) {
                say(what + " threw " + e + ", due is " + want.getName());
            }
        }
    }

    void dueTrue(String what, boolean holds) {
        made++;
        if (!holds) {
            say(what + " does not hold");
        }
    }

    /** All that look() tells of one balance. */
    void dueBalance(String what, BalanceRoom room, int g, long... wants) {
        for (int i = 0; i < wants.length; i++) {
            int which = i;
            due(what + ": look(" + g + ", " + i + ")", wants[i], () -> room.look(g, which));
        }
    }

    /** What comes of one order on a number: with w as the NOW of the balance next to it. */
    void dueOrder(int g, long v, int code, int k, long w, long want) {
        BalanceRoom room = new BalanceRoom();
        room.read(g, v);
        room.read(g + 1, w);
        room.order(code, k);
        due("order " + code + ", " + k + " on " + v + " against " + w + " in balance " + g, want, () -> room.show(g));
    }

    /** What comes of one order in a room where no other balance has a reading. */
    void dueAlone(int g, long v, int code, int k, long want) {
        BalanceRoom room = new BalanceRoom();
        room.read(g, v);
        room.order(code, k);
        due("order " + code + ", " + k + " on " + v + " in balance " + g, want, () -> room.show(g));
    }

    private void say(String text) {
        wrong++;
        if (wrong <= MOST_PRINTED) {
            System.out.println(sentence + text);
        }
    }

    void end() {
        System.out.println(made + " checks, " + wrong + " wrong");
        if (wrong != 0) {
            System.exit(1);
        }
    }

    static long bits(float x) {
        return Float.floatToRawIntBits(x);
    }

    static long bits(double x) {
        return Double.doubleToRawLongBits(x);
    }
}
