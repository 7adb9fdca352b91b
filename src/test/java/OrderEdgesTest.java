/** The edges in "Terms": the ORDERS 0 to 12, what stands in their brackets and behind "but". */
public final class OrderEdgesTest {
    private static final double INFINITE = Numbers.INFINITE;

    private static final Checks CHECKS = new Checks();

    public static void main(String[] args) {
        for (int g : Numbers.EACH) {
            nowOfTheOther(g);
        }
        for (int g : Numbers.WHOLE) {
            wholeSize(g);
            wholeOnesAreThemselves(g);
            wholeSign(g);
            wholeLike(g);
            wholeMoreAndLess(g);
            wholeStep(g);
            wholeMeet(g);
            wholeTurn(g);
            wholeHeld(g);
            wholePart(g);
        }
        for (int g : Numbers.POINTS) {
            pointSize(g);
            pointDown(g);
            pointUp(g);
            pointNear(g);
            wholeOnesBehindAllFractions(g);
            zeroBelowZero(g);
            infiniteOnesStay(g);
            pointSign(g);
            pointLike(g);
            pointMoreAndLess(g);
            pointStep(g);
            pointStepInTwoOperations(g);
            pointMeet(g);
            pointTurn(g);
            pointHeld(g);
            pointPart(g);
            infinitePart(g);
        }
        CHECKS.end();
    }

    private static void due(int g, int code, double v, double want) {
        CHECKS.dueAlone(g, Numbers.of(g, v), code, 0, Numbers.of(g, want));
    }

    /** With the number told in bits. */
    private static void dueOf(int g, int code, long v, double want) {
        CHECKS.dueAlone(g, v, code, 0, Numbers.of(g, want));
    }

    private static void due(int g, int code, double v, double w, double want) {
        CHECKS.dueOrder(g, Numbers.of(g, v), code, g + 1, Numbers.of(g, w), Numbers.of(g, want));
    }

    private static void dueStep(int g, double v, int p, double want) {
        CHECKS.dueAlone(g, Numbers.of(g, v), Checks.STEP, p + 10, Numbers.of(g, want));
    }

    /** The NOW of the other balance is neither its first reading nor its LEAST nor its GREATEST. */
    private static void dueAgainst(int g, int code, double v, double sign, double want) {
        BalanceRoom room = new BalanceRoom();
        room.read(g, Numbers.of(g, v));
        room.read(g + 2, Numbers.of(g, -9 * sign));
        room.read(g + 2, Numbers.of(g, 9 * sign));
        room.read(g + 2, Numbers.of(g, 2 * sign));
        room.order(code, g + 2);
        CHECKS.due("order " + code + " on " + v + " in " + g, Numbers.of(g, want), () -> room.show(g));
    }

    private static void nowOfTheOther(int g) {
        CHECKS.about("w is the NOW of balance k");
        dueAgainst(g, Checks.LIKE, -7, 1, 7);
        dueAgainst(g, Checks.LIKE, 7, -1, -7);
        dueAgainst(g, Checks.MORE, 1, 1, 2);
        dueAgainst(g, Checks.MORE, -3, -1, -2);
        dueAgainst(g, Checks.LESS, 3, 1, 2);
        dueAgainst(g, Checks.LESS, -1, -1, -2);
        dueAgainst(g, Checks.MEET, 4, 1, 3);
        dueAgainst(g, Checks.MEET, -4, -1, -3);
    }

    private static void wholeSize(int g) {
        CHECKS.about("0 SIZE: without its sign (of the least INT, LONG: itself)");
        long least = Numbers.leastWhole(g);
        long greatest = Numbers.greatestWhole(g);
        CHECKS.dueAlone(g, least, Checks.SIZE, 0, least);
        CHECKS.dueAlone(g, least + 1, Checks.SIZE, 0, greatest);
        CHECKS.dueAlone(g, greatest, Checks.SIZE, 0, greatest);
        due(g, Checks.SIZE, -1, 1);
        due(g, Checks.SIZE, 0, 0);
    }

    private static void pointSize(int g) {
        CHECKS.about("0 SIZE: without its sign");
        due(g, Checks.SIZE, -0.0, 0.0);
        due(g, Checks.SIZE, 0.0, 0.0);
        due(g, Checks.SIZE, -INFINITE, INFINITE);
        due(g, Checks.SIZE, INFINITE, INFINITE);
        CHECKS.dueAlone(g, Numbers.tiny(g, -1), Checks.SIZE, 0, Numbers.tiny(g, 1));
        CHECKS.dueAlone(g, Numbers.leastFinite(g), Checks.SIZE, 0, Numbers.greatestFinite(g));
    }

    private static void pointDown(int g) {
        CHECKS.about("1 DOWN: the greatest whole number that is not above v");
        due(g, Checks.DOWN, 1.0, 1.0);
        due(g, Checks.DOWN, -1.0, -1.0);
        due(g, Checks.DOWN, 2.0, 2.0);
        dueOf(g, Checks.DOWN, Numbers.of(g, 2) - 1, 1);
        dueOf(g, Checks.DOWN, Numbers.of(g, 2) + 1, 2);
        due(g, Checks.DOWN, -2.0, -2.0);
        dueOf(g, Checks.DOWN, Numbers.of(g, -2) - 1, -2);
        dueOf(g, Checks.DOWN, Numbers.of(g, -2) + 1, -3);
        dueOf(g, Checks.DOWN, Numbers.of(g, 1) - 1, 0.0);
        dueOf(g, Checks.DOWN, Numbers.of(g, -1) - 1, -1);
        dueOf(g, Checks.DOWN, Numbers.of(g, -1) + 1, -2);
        dueOf(g, Checks.DOWN, Numbers.tiny(g, 1), 0.0);
        dueOf(g, Checks.DOWN, Numbers.tiny(g, -1), -1);
        due(g, Checks.DOWN, 0.0, 0.0);
    }

    private static void pointUp(int g) {
        CHECKS.about("2 UP: the least one that is not below");
        due(g, Checks.UP, 1.0, 1.0);
        due(g, Checks.UP, -1.0, -1.0);
        due(g, Checks.UP, 2.0, 2.0);
        dueOf(g, Checks.UP, Numbers.of(g, 2) - 1, 2);
        dueOf(g, Checks.UP, Numbers.of(g, 2) + 1, 3);
        due(g, Checks.UP, -2.0, -2.0);
        dueOf(g, Checks.UP, Numbers.of(g, -2) - 1, -1);
        dueOf(g, Checks.UP, Numbers.of(g, -2) + 1, -2);
        dueOf(g, Checks.UP, Numbers.of(g, 1) - 1, 1);
        dueOf(g, Checks.UP, Numbers.of(g, 1) + 1, 2);
        dueOf(g, Checks.UP, Numbers.of(g, -1) + 1, -1);
        dueOf(g, Checks.UP, Numbers.tiny(g, 1), 1);
        due(g, Checks.UP, 0.0, 0.0);
    }

    private static void pointNear(int g) {
        CHECKS.about("3 NEAR: the nearest one, of two the even one");
        double[] halves = {0.5, 1.5, 2.5, 3.5, 4.5, 1022.5, 1023.5};
        double[] evens = {0, 2, 2, 4, 4, 1022, 1024};
        for (int i = 0; i < halves.length; i++) {
            long half = Numbers.of(g, halves[i]);
            long minusHalf = Numbers.of(g, -halves[i]);
            dueOf(g, Checks.NEAR, half, evens[i]);
            dueOf(g, Checks.NEAR, half - 1, Math.floor(halves[i]));
            dueOf(g, Checks.NEAR, half + 1, Math.ceil(halves[i]));
            // -evens[i] of 0.0 is -0.0, as it has to be.
            dueOf(g, Checks.NEAR, minusHalf, -evens[i]);
            dueOf(g, Checks.NEAR, minusHalf - 1, -Math.floor(halves[i]));
            dueOf(g, Checks.NEAR, minusHalf + 1, -Math.ceil(halves[i]));
        }
        due(g, Checks.NEAR, 1, 1);
        due(g, Checks.NEAR, -1, -1);
        due(g, Checks.NEAR, 3, 3);
        due(g, Checks.NEAR, -3, -3);
        due(g, Checks.NEAR, 0.0, 0.0);
        dueOf(g, Checks.NEAR, Numbers.tiny(g, 1), 0.0);
        dueOf(g, Checks.NEAR, Numbers.of(g, 1) - 1, 1);
    }

    /** From 2^(n-1) on every number is whole; right below it the last fractions are halves. */
    private static void wholeOnesBehindAllFractions(int g) {
        CHECKS.about("1 DOWN, 2 UP, 3 NEAR where fractions end");
        long first = Numbers.power(g, Numbers.precision(g) - 1);
        long minusFirst = Numbers.of(g, -Math.scalb(1.0, Numbers.precision(g) - 1));
        CHECKS.dueAlone(g, first - 1, Checks.DOWN, 0, first - 2);
        CHECKS.dueAlone(g, first - 1, Checks.UP, 0, first);
        CHECKS.dueAlone(g, first - 1, Checks.NEAR, 0, first);
        CHECKS.dueAlone(g, first - 3, Checks.NEAR, 0, first - 4);
        CHECKS.dueAlone(g, minusFirst - 1, Checks.DOWN, 0, minusFirst);
        CHECKS.dueAlone(g, minusFirst - 1, Checks.UP, 0, minusFirst - 2);
        CHECKS.dueAlone(g, minusFirst - 1, Checks.NEAR, 0, minusFirst);
        long[] whole = {first - 2, first, first + 1, first + 3, Numbers.greatestFinite(g), minusFirst,
            minusFirst + 1, Numbers.leastFinite(g)};
        for (long v : whole) {
            for (int code = Checks.DOWN; code <= Checks.NEAR; code++) {
                CHECKS.dueAlone(g, v, code, 0, v);
            }
        }
    }

    private static void zeroBelowZero(int g) {
        CHECKS.about("What comes of FLOATS, DOUBLES below 0 and of -0.0, if it is 0, is -0.0");
        due(g, Checks.DOWN, -0.0, -0.0);
        due(g, Checks.UP, -0.0, -0.0);
        due(g, Checks.NEAR, -0.0, -0.0);
        due(g, Checks.UP, -0.5, -0.0);
        dueOf(g, Checks.UP, Numbers.of(g, -1) - 1, -0.0);
        dueOf(g, Checks.UP, Numbers.tiny(g, -1), -0.0);
        due(g, Checks.NEAR, -0.5, -0.0);
        dueOf(g, Checks.NEAR, Numbers.tiny(g, -1), -0.0);
        CHECKS.about("What comes of FLOATS, DOUBLES above 0 and of 0.0, if it is 0, is 0.0");
        due(g, Checks.DOWN, 0.5, 0.0);
        due(g, Checks.NEAR, 0.5, 0.0);
        due(g, Checks.UP, 0.0, 0.0);
    }

    private static void infiniteOnesStay(int g) {
        CHECKS.about("infinite ones stay");
        for (int code = Checks.DOWN; code <= Checks.NEAR; code++) {
            due(g, code, INFINITE, INFINITE);
            due(g, code, -INFINITE, -INFINITE);
        }
    }

    private static void wholeOnesAreThemselves(int g) {
        CHECKS.about("1 DOWN, 2 UP, 3 NEAR: of INTS, LONGS itself");
        long[] numbers = {Numbers.leastWhole(g), -3, -1, 0, 1, 3, Numbers.greatestWhole(g)};
        for (long v : numbers) {
            for (int code = Checks.DOWN; code <= Checks.NEAR; code++) {
                CHECKS.dueAlone(g, v, code, 0, v);
            }
        }
    }

    private static void wholeSign(int g) {
        CHECKS.about("4 SIGN: 1 or -1, as v is above or below 0; of 0 itself");
        CHECKS.dueAlone(g, Numbers.leastWhole(g), Checks.SIGN, 0, -1);
        CHECKS.dueAlone(g, Numbers.greatestWhole(g), Checks.SIGN, 0, 1);
        due(g, Checks.SIGN, 1, 1);
        due(g, Checks.SIGN, -1, -1);
        due(g, Checks.SIGN, 2, 1);
        due(g, Checks.SIGN, -2, -1);
        due(g, Checks.SIGN, 0, 0);
    }

    private static void pointSign(int g) {
        CHECKS.about("4 SIGN: 1 or -1, as v is above or below 0; of 0.0, -0.0 itself");
        due(g, Checks.SIGN, 0.0, 0.0);
        due(g, Checks.SIGN, -0.0, -0.0);
        dueOf(g, Checks.SIGN, Numbers.tiny(g, 1), 1);
        dueOf(g, Checks.SIGN, Numbers.tiny(g, -1), -1);
        due(g, Checks.SIGN, INFINITE, 1);
        due(g, Checks.SIGN, -INFINITE, -1);
        due(g, Checks.SIGN, 0.5, 1);
        due(g, Checks.SIGN, -7, -1);
    }

    private static void wholeLike(int g) {
        CHECKS.about("5 LIKE: the SIZE of v; of INTS, LONGS 0 less that, if w is below 0");
        long least = Numbers.leastWhole(g);
        due(g, Checks.LIKE, 7, -1, -7);
        due(g, Checks.LIKE, -7, -1, -7);
        due(g, Checks.LIKE, -7, 0, 7);
        due(g, Checks.LIKE, 7, 0, 7);
        due(g, Checks.LIKE, -7, 1, 7);
        due(g, Checks.LIKE, 0, -1, 0);
        CHECKS.dueOrder(g, least, Checks.LIKE, g + 1, 0, least);
        CHECKS.dueOrder(g, least, Checks.LIKE, g + 1, -1, least);
        CHECKS.dueOrder(g, 3, Checks.LIKE, g + 1, least, -3);
        CHECKS.dueOrder(g, -3, Checks.LIKE, g + 1, Numbers.greatestWhole(g), 3);
        CHECKS.dueOrder(g, Numbers.greatestWhole(g), Checks.LIKE, g + 1, -1, least + 1);
    }

    private static void pointLike(int g) {
        CHECKS.about("5 LIKE: the SIZE of v, of FLOATS and DOUBLES with the sign bit of w");
        due(g, Checks.LIKE, 2.5, -0.0, -2.5);
        due(g, Checks.LIKE, -2.5, 0.0, 2.5);
        due(g, Checks.LIKE, -2.5, -0.0, -2.5);
        due(g, Checks.LIKE, 2.5, -INFINITE, -2.5);
        due(g, Checks.LIKE, -2.5, INFINITE, 2.5);
        due(g, Checks.LIKE, 0.0, -1, -0.0);
        due(g, Checks.LIKE, -0.0, 1, 0.0);
        due(g, Checks.LIKE, INFINITE, -1, -INFINITE);
        due(g, Checks.LIKE, -INFINITE, 1, INFINITE);
        CHECKS.dueOrder(g, Numbers.tiny(g, 1), Checks.LIKE, g + 1, Numbers.tiny(g, -1), Numbers.tiny(g, -1));
    }

    private static void wholeMoreAndLess(int g) {
        CHECKS.about("6 MORE: the greater of v and w. 7 LESS: the lesser.");
        dueMoreAndLess(g, Numbers.leastWhole(g), Numbers.greatestWhole(g));
        dueMoreAndLess(g, -1, 0);
        dueMoreAndLess(g, 0, 1);
        dueMoreAndLess(g, 5, 5);
        dueMoreAndLess(g, Numbers.leastWhole(g), 1);
        dueMoreAndLess(g, -2, Numbers.greatestWhole(g));
    }

    private static void dueMoreAndLess(int g, long low, long high) {
        CHECKS.dueOrder(g, low, Checks.MORE, g + 1, high, high);
        CHECKS.dueOrder(g, high, Checks.MORE, g + 1, low, high);
        CHECKS.dueOrder(g, low, Checks.LESS, g + 1, high, low);
        CHECKS.dueOrder(g, high, Checks.LESS, g + 1, low, low);
    }

    private static void pointMoreAndLess(int g) {
        CHECKS.about("6 MORE: the greater of v and w. 7 LESS: the lesser.");
        // Each of these is less than the next one.
        long[] rising = {Numbers.of(g, -INFINITE), Numbers.leastFinite(g), Numbers.of(g, -1.5), Numbers.of(g, -1.25),
            Numbers.tiny(g, -2), Numbers.tiny(g, -1), Numbers.of(g, -0.0), 0, Numbers.tiny(g, 1), Numbers.tiny(g, 2),
            Numbers.of(g, 1.25), Numbers.of(g, 1.5), Numbers.greatestFinite(g), Numbers.of(g, INFINITE)};
        for (int i = 0; i < rising.length; i++) {
            for (int j = i; j < rising.length; j++) {
                dueMoreAndLess(g, rising[i], rising[j]);
            }
        }
    }

    private static void wholeStep(int g) {
        CHECKS.about("8 STEP: of INTS, LONGS the greatest multiple of 2^p that is not above v");
        long least = Numbers.leastWhole(g);
        long greatest = Numbers.greatestWhole(g);
        for (int p = 0; p <= 10; p++) {
            long step = 1L << p;
            dueStep(g, 0, p, 0);
            dueStep(g, step - 1, p, 0);
            dueStep(g, step, p, step);
            dueStep(g, 2 * step - 1, p, step);
            dueStep(g, -1, p, -step);
            dueStep(g, -step, p, -step);
            dueStep(g, -step - 1, p, -2 * step);
            CHECKS.dueAlone(g, least, Checks.STEP, p + 10, least);
            CHECKS.dueAlone(g, least + step - 1, Checks.STEP, p + 10, least);
            CHECKS.dueAlone(g, least + step, Checks.STEP, p + 10, least + step);
            CHECKS.dueAlone(g, greatest, Checks.STEP, p + 10, greatest - step + 1);
        }
        CHECKS.about("8 STEP: of INTS, LONGS itself for p below 0");
        for (int p = -10; p < 0; p++) {
            dueStep(g, 7, p, 7);
            dueStep(g, -7, p, -7);
            CHECKS.dueAlone(g, least, Checks.STEP, p + 10, least);
            CHECKS.dueAlone(g, greatest, Checks.STEP, p + 10, greatest);
        }
    }

    private static void pointStep(int g) {
        CHECKS.about("8 STEP: with p = k - 10 (k 0 .. 20): of FLOATS, DOUBLES the NEAR of v * 2^-p, and that * 2^p");
        for (int p = -10; p <= 10; p++) {
            double step = Math.scalb(1.0, p);
            dueStep(g, 0.0, p, 0.0);
            dueStep(g, -0.0, p, -0.0);
            dueStep(g, step, p, step);
            dueStep(g, 0.5 * step, p, 0.0);
            dueStep(g, 1.5 * step, p, 2 * step);
            dueStep(g, 2.5 * step, p, 2 * step);
            dueStep(g, 0.75 * step, p, step);
            dueStep(g, 1.25 * step, p, step);
            dueStep(g, -0.5 * step, p, -0.0);
            dueStep(g, -1.5 * step, p, -2 * step);
            dueStep(g, -1.25 * step, p, -step);
            dueStep(g, INFINITE, p, INFINITE);
            dueStep(g, -INFINITE, p, -INFINITE);
            CHECKS.dueAlone(g, Numbers.tiny(g, 1), Checks.STEP, p + 10, 0);
            CHECKS.dueAlone(g, Numbers.tiny(g, -1), Checks.STEP, p + 10, Numbers.of(g, -0.0));
        }
    }

    private static void pointStepInTwoOperations(int g) {
        CHECKS.about("8 STEP: the NEAR of v * 2^-p, and that * 2^p, where the first is infinite");
        long greatest = Numbers.greatestFinite(g);
        long perPower = Numbers.leastNormal(g);
        for (int p = -10; p < 0; p++) {
            CHECKS.dueAlone(g, greatest, Checks.STEP, p + 10, Numbers.of(g, INFINITE));
            CHECKS.dueAlone(g, Numbers.leastFinite(g), Checks.STEP, p + 10, Numbers.of(g, -INFINITE));
            // The greatest one whose product is still finite.
            long last = greatest + p * perPower;
            CHECKS.dueAlone(g, last, Checks.STEP, p + 10, last);
            CHECKS.dueAlone(g, last + 1, Checks.STEP, p + 10, Numbers.of(g, INFINITE));
        }
        for (int p = 0; p <= 10; p++) {
            CHECKS.dueAlone(g, greatest, Checks.STEP, p + 10, greatest);
        }
    }

    private static void wholeMeet(int g) {
        CHECKS.about("9 MEET: of INTS, LONGS v + w (it wraps), halved, the greatest whole number that is not above "
                + "that");
        long least = Numbers.leastWhole(g);
        long greatest = Numbers.greatestWhole(g);
        due(g, Checks.MEET, 3, 4, 3);
        due(g, Checks.MEET, -3, -4, -4);
        due(g, Checks.MEET, -1, 0, -1);
        due(g, Checks.MEET, 1, 0, 0);
        due(g, Checks.MEET, -1, 1, 0);
        due(g, Checks.MEET, -2, 1, -1);
        CHECKS.dueOrder(g, greatest, Checks.MEET, g + 1, 1, least / 2);
        CHECKS.dueOrder(g, greatest, Checks.MEET, g + 1, greatest, -1);
        CHECKS.dueOrder(g, least, Checks.MEET, g + 1, -1, greatest / 2);
        CHECKS.dueOrder(g, least, Checks.MEET, g + 1, least, 0);
        CHECKS.dueOrder(g, least, Checks.MEET, g + 1, greatest, -1);
        CHECKS.dueOrder(g, greatest, Checks.MEET, g + 1, 0, greatest / 2);
    }

    private static void pointMeet(int g) {
        CHECKS.about("9 MEET: (v + w) * 0.5");
        due(g, Checks.MEET, 0.0, 0.0, 0.0);
        due(g, Checks.MEET, -0.0, -0.0, -0.0);
        due(g, Checks.MEET, 0.0, -0.0, 0.0);
        due(g, Checks.MEET, -0.0, 0.0, 0.0);
        due(g, Checks.MEET, 2.5, -2.5, 0.0);
        due(g, Checks.MEET, -2.5, 2.5, 0.0);
        due(g, Checks.MEET, -3, -4, -3.5);
        long greatest = Numbers.greatestFinite(g);
        CHECKS.dueOrder(g, greatest, Checks.MEET, g + 1, greatest, Numbers.of(g, INFINITE));
        CHECKS.dueOrder(g, greatest, Checks.MEET, g + 1, Numbers.leastFinite(g), 0);
        long least = Numbers.leastFinite(g);
        CHECKS.dueOrder(g, least, Checks.MEET, g + 1, least, Numbers.of(g, -INFINITE));
        CHECKS.about("9 MEET: Refused, if both are infinite with unlike signs: not so otherwise");
        due(g, Checks.MEET, INFINITE, INFINITE, INFINITE);
        due(g, Checks.MEET, -INFINITE, -INFINITE, -INFINITE);
        due(g, Checks.MEET, INFINITE, -7, INFINITE);
        due(g, Checks.MEET, 7, -INFINITE, -INFINITE);
        CHECKS.dueOrder(g, greatest, Checks.MEET, g + 1, Numbers.of(g, -INFINITE), Numbers.of(g, -INFINITE));
        CHECKS.dueOrder(g, Numbers.of(g, -INFINITE), Checks.MEET, g + 1, greatest, Numbers.of(g, -INFINITE));
        CHECKS.about("9 MEET: Refused: of FLOATS, DOUBLES, if both are infinite with unlike signs");
        dueRefused(g, INFINITE, -INFINITE);
        dueRefused(g, -INFINITE, INFINITE);
    }

    private static void dueRefused(int g, double v, double w) {
        BalanceRoom room = new BalanceRoom();
        room.read(g, Numbers.of(g, v));
        room.read(g + 1, Numbers.of(g, w));
        room.order(Checks.MEET, g + 1);
        CHECKS.dueThrow("MEET of " + v + " and " + w + " in " + g, Checks.ARITHMETIC, () -> room.show(g));
        CHECKS.due("refused", 0, () -> room.failed());
    }

    private static void wholeTurn(int g) {
        CHECKS.about("10 TURN: 0 less v of INTS, LONGS");
        long least = Numbers.leastWhole(g);
        long greatest = Numbers.greatestWhole(g);
        CHECKS.dueAlone(g, least, Checks.TURN, 0, least);
        CHECKS.dueAlone(g, least + 1, Checks.TURN, 0, greatest);
        CHECKS.dueAlone(g, greatest, Checks.TURN, 0, least + 1);
        due(g, Checks.TURN, 0, 0);
        due(g, Checks.TURN, 1, -1);
    }

    private static void pointTurn(int g) {
        CHECKS.about("10 TURN: with the other sign");
        due(g, Checks.TURN, 0.0, -0.0);
        due(g, Checks.TURN, -0.0, 0.0);
        due(g, Checks.TURN, INFINITE, -INFINITE);
        due(g, Checks.TURN, -INFINITE, INFINITE);
        CHECKS.dueAlone(g, Numbers.tiny(g, 1), Checks.TURN, 0, Numbers.tiny(g, -1));
        CHECKS.dueAlone(g, Numbers.leastFinite(g), Checks.TURN, 0, Numbers.greatestFinite(g));
    }

    /** The bounds are the first two readings of the balance; its NOW, in between, is no bound. */
    private static void dueHeld(int g, long v, long least, long greatest, long now, long want) {
        BalanceRoom room = new BalanceRoom();
        room.read(g, v);
        room.read(g + 3, least);
        room.read(g + 3, greatest);
        room.read(g + 3, now);
        room.order(Checks.HELD, g + 3);
        CHECKS.due(v + " held between " + least + " and " + greatest + " in " + g, want, () -> room.show(g));
    }

    private static void dueHeld(int g, double v, double least, double greatest, double want) {
        dueHeld(g, Numbers.of(g, v), Numbers.of(g, least), Numbers.of(g, greatest), Numbers.of(g, least),
                Numbers.of(g, want));
        dueHeld(g, Numbers.of(g, v), Numbers.of(g, least), Numbers.of(g, greatest), Numbers.of(g, greatest),
                Numbers.of(g, want));
    }

    private static void heldBetweenBounds(int g) {
        CHECKS.about("11 HELD: the greater of the LEAST of balance k and the lesser of v and its GREATEST");
        dueHeld(g, -4, -3, 6, -3);
        dueHeld(g, -3, -3, 6, -3);
        dueHeld(g, -2, -3, 6, -2);
        dueHeld(g, 5, -3, 6, 5);
        dueHeld(g, 6, -3, 6, 6);
        dueHeld(g, 7, -3, 6, 6);
        dueHeld(g, 7, 2, 2, 2);
        dueHeld(g, 2, 2, 2, 2);
        dueHeld(g, -7, 2, 2, 2);
        BalanceRoom own = new BalanceRoom();
        own.read(g, Numbers.of(g, 4));
        own.read(g, Numbers.of(g, 3));
        own.order(Checks.TURN, 0);
        own.order(Checks.HELD, g);
        CHECKS.due("between its own bounds", Numbers.of(g, 3), () -> own.show(g));
    }

    private static void wholeHeld(int g) {
        heldBetweenBounds(g);
        long least = Numbers.leastWhole(g);
        long greatest = Numbers.greatestWhole(g);
        dueHeld(g, least, -1, 1, 0, -1);
        dueHeld(g, greatest, -1, 1, 0, 1);
        dueHeld(g, 7, least, greatest, 0, 7);
        dueHeld(g, greatest, least, least, least, least);
    }

    private static void pointHeld(int g) {
        heldBetweenBounds(g);
        dueHeld(g, -INFINITE, -3, 6, -3);
        dueHeld(g, INFINITE, -3, 6, 6);
        dueHeld(g, 7, -INFINITE, INFINITE, 7);
        dueHeld(g, -INFINITE, -INFINITE, INFINITE, -INFINITE);
        dueHeld(g, 7, -INFINITE, -INFINITE, -INFINITE);
        dueHeld(g, -0.0, 0.0, 1, 0.0);
        dueHeld(g, 0.0, -1, -0.0, -0.0);
        dueHeld(g, 0.0, -0.0, 0.0, 0.0);
        dueHeld(g, -0.0, -0.0, 0.0, -0.0);
    }

    private static void wholePart(int g) {
        CHECKS.about("12 PART: of INTS, LONGS 0");
        long[] numbers = {Numbers.leastWhole(g), -7, -1, 0, 1, 7, Numbers.greatestWhole(g)};
        for (long v : numbers) {
            CHECKS.dueAlone(g, v, Checks.PART, 0, 0);
        }
    }

    private static void pointPart(int g) {
        CHECKS.about("12 PART: v less the DOWN of v");
        due(g, Checks.PART, 2.75, 0.75);
        due(g, Checks.PART, -2.75, 0.25);
        due(g, Checks.PART, 0.5, 0.5);
        due(g, Checks.PART, -0.5, 0.5);
        due(g, Checks.PART, 3, 0.0);
        due(g, Checks.PART, -3, 0.0);
        due(g, Checks.PART, 0.0, 0.0);
        due(g, Checks.PART, -0.0, 0.0);
        dueOf(g, Checks.PART, Numbers.greatestFinite(g), 0.0);
        dueOf(g, Checks.PART, Numbers.leastFinite(g), 0.0);
        CHECKS.dueAlone(g, Numbers.tiny(g, 1), Checks.PART, 0, Numbers.tiny(g, 1));
        dueOf(g, Checks.PART, Numbers.tiny(g, -1), 1);
        CHECKS.dueAlone(g, Numbers.of(g, 1) - 1, Checks.PART, 0, Numbers.of(g, 1) - 1);
    }

    private static void infinitePart(int g) {
        CHECKS.about("12 PART: but of infinite ones 0.0 with v's sign");
        due(g, Checks.PART, INFINITE, 0.0);
        due(g, Checks.PART, -INFINITE, -0.0);
    }
}
