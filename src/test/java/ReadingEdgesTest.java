/** The edges in "Terms": BALANCES, and what a READING does. */
public final class ReadingEdgesTest {
    private static final Checks CHECKS = new Checks();

    public static void main(String[] args) {
        sortOfABalance();
        for (int g : Numbers.EACH) {
            zeroAtFirst(g);
            firstReading(g);
            anotherLessNow(g);
            trendIsTheSign(g);
            swingIsTheGreater(g);
            leastAndGreatest(g);
            countInAnyCase(g);
        }
        for (int g : Numbers.WHOLE) {
            swingOfTheLeastOne(g);
        }
        for (int g : Numbers.POINTS) {
            bothInfiniteWithOneSign(g);
            trendOfZeros(g);
        }
        CHECKS.end();
    }

    private static BalanceRoom after(int g, long... readings) {
        BalanceRoom room = new BalanceRoom();
        for (long bits : readings) {
            room.read(g, bits);
        }
        return room;
    }

    private static void sortOfABalance() {
        CHECKS.about("balance g is of sort g / 4");
        long bits = 0x4000000040000000L;
        long[] turned = {-0x40000000L, -bits, 0xffffffffc0000000L, bits | Long.MIN_VALUE};
        for (int g = 0; g < 16; g++) {
            CHECKS.dueAlone(g, bits, Checks.TURN, 0, turned[g / 4]);
        }
    }

    private static void zeroAtFirst(int g) {
        CHECKS.about("all are 0 (0.0) at first");
        for (int i = g; i < g + 4; i++) {
            CHECKS.dueBalance("at first", new BalanceRoom(), i, 0, 0, 0, 0, 0, 0);
        }
    }

    private static void firstReading(int g) {
        CHECKS.about("the first one (COUNT is 0) becomes NOW, LEAST and GREATEST");
        long[] whole = {5, -5, 0, Numbers.leastWhole(g), Numbers.greatestWhole(g)};
        long[] points = {Numbers.of(g, 5), Numbers.of(g, -5), 0, Numbers.of(g, -0.0), Numbers.of(g, Numbers.INFINITE),
            Numbers.of(g, -Numbers.INFINITE), Numbers.tiny(g, 1), Numbers.tiny(g, -1)};
        for (long v : g < 8 ? whole : points) {
            CHECKS.dueBalance("first", after(g, v), g, 1, v, v, v, 0, 0);
            BalanceRoom room = after(g, Numbers.of(g, 1), Numbers.of(g, 3));
            room.forget(g);
            room.read(g, v);
            CHECKS.dueBalance("first once more", room, g, 1, v, v, v, 0, 0);
        }
    }

    private static void anotherLessNow(int g) {
        CHECKS.about("Another one: D is v less NOW");
        long one = Numbers.of(g, 1);
        long minus = Numbers.of(g, -1);
        long ten = Numbers.of(g, 10);
        long four = Numbers.of(g, 4);
        CHECKS.dueBalance("up", after(g, four, ten), g, 2, ten, four, ten, Numbers.of(g, 6), one);
        CHECKS.dueBalance("down", after(g, ten, four), g, 2, four, four, ten, Numbers.of(g, 6), minus);
        long seven = Numbers.of(g, 7);
        long eight = Numbers.of(g, 8);
        CHECKS.dueBalance("less NOW, not less the first, the LEAST or the GREATEST", after(g, seven, four, ten, eight),
                g, 4, eight, four, ten, Numbers.of(g, 6), minus);
        CHECKS.dueBalance("and so upwards", after(g, seven, ten, four, Numbers.of(g, 5)),
                g, 4, Numbers.of(g, 5), four, ten, Numbers.of(g, 6), one);
        CHECKS.dueBalance("a second one that is 0", after(g, four, 0), g, 2, 0, 0, four, four, minus);
        CHECKS.dueBalance("a first one that is 0", after(g, 0, four), g, 2, four, 0, four, four, one);
    }

    private static void trendIsTheSign(int g) {
        CHECKS.about("TREND becomes the SIGN of D");
        long four = Numbers.of(g, 4);
        long nine = Numbers.of(g, 9);
        CHECKS.due("up", Numbers.of(g, 1), () -> after(g, four, nine).look(g, Checks.TREND));
        CHECKS.due("down", Numbers.of(g, -1), () -> after(g, nine, four).look(g, Checks.TREND));
        CHECKS.due("up, level", 0, () -> after(g, four, nine, nine).look(g, Checks.TREND));
        CHECKS.due("down, level", 0, () -> after(g, nine, four, four).look(g, Checks.TREND));
        CHECKS.due("down, up", Numbers.of(g, 1), () -> after(g, nine, four, nine).look(g, Checks.TREND));
    }

    private static void trendOfZeros(int g) {
        CHECKS.about("TREND becomes the SIGN of D, of 0.0, -0.0 itself");
        long minus = Numbers.of(g, -0.0);
        CHECKS.due("0.0 less 0.0", 0, () -> after(g, 0, 0).look(g, Checks.TREND));
        CHECKS.due("-0.0 less -0.0", 0, () -> after(g, minus, minus).look(g, Checks.TREND));
        CHECKS.due("0.0 less -0.0", 0, () -> after(g, minus, 0).look(g, Checks.TREND));
        CHECKS.due("-0.0 less 0.0", minus, () -> after(g, 0, minus).look(g, Checks.TREND));
        CHECKS.due("its SIZE is 0.0", 0, () -> after(g, 0, minus).look(g, Checks.SWING));
    }

    private static void swingIsTheGreater(int g) {
        CHECKS.about("SWING the greater of SWING and D's SIZE");
        long zero = 0;
        long five = Numbers.of(g, 5);
        long three = Numbers.of(g, 3);
        CHECKS.due("smaller", five, () -> after(g, zero, five, three).look(g, Checks.SWING));
        CHECKS.due("as great", five, () -> after(g, zero, five, zero).look(g, Checks.SWING));
        CHECKS.due("greater", Numbers.of(g, 8), () -> after(g, zero, five, Numbers.of(g, -3)).look(g, Checks.SWING));
        CHECKS.due("level", five, () -> after(g, zero, five, five).look(g, Checks.SWING));
        CHECKS.due("D below 0", three, () -> after(g, three, zero).look(g, Checks.SWING));
    }

    private static void swingOfTheLeastOne(int g) {
        CHECKS.about("SWING the greater of SWING and D's SIZE: of the least INT, LONG itself");
        long least = Numbers.leastWhole(g);
        CHECKS.dueBalance("D is the least one", after(g, 0, least), g, 2, least, least, 0, 0, -1);
        CHECKS.dueBalance("it is so from below, too", after(g, least, 0), g, 2, 0, least, 0, 0, -1);
        CHECKS.dueBalance("D is one more", after(g, 0, least + 1), g, 2, least + 1, least + 1, 0,
                Numbers.greatestWhole(g), -1);
        CHECKS.dueBalance("SWING stays", after(g, 3, 0, least), g, 3, least, least, 3, 3, -1);
    }

    private static void leastAndGreatest(int g) {
        CHECKS.about("LEAST the lesser of LEAST and v; GREATEST the greater of GREATEST and v; NOW v");
        long two = Numbers.of(g, 2);
        long minusTwo = Numbers.of(g, -2);
        long minusNine = Numbers.of(g, -9);
        long nine = Numbers.of(g, 9);
        BalanceRoom room = after(g, two, minusTwo);
        due(room, g, minusTwo, minusTwo, two);
        room.read(g, 0);
        due(room, g, 0, minusTwo, two);
        room.read(g, two);
        due(room, g, two, minusTwo, two);
        room.read(g, nine);
        due(room, g, nine, minusTwo, nine);
        room.read(g, minusNine);
        due(room, g, minusNine, minusNine, nine);
        due(after(g, two, nine), g, nine, two, nine);
        due(after(g, minusTwo, minusNine), g, minusNine, minusNine, minusTwo);
    }

    private static void due(BalanceRoom room, int g, long now, long least, long greatest) {
        CHECKS.due("NOW", now, () -> room.look(g, Checks.NOW));
        CHECKS.due("LEAST", least, () -> room.look(g, Checks.LEAST));
        CHECKS.due("GREATEST", greatest, () -> room.look(g, Checks.GREATEST));
    }

    private static void bothInfiniteWithOneSign(int g) {
        CHECKS.about("but 0 (0.0), if both are infinite with one sign");
        long above = Numbers.of(g, Numbers.INFINITE);
        long below = Numbers.of(g, -Numbers.INFINITE);
        long one = Numbers.of(g, 1);
        long minus = Numbers.of(g, -1);
        CHECKS.dueBalance("above 0", after(g, above, above), g, 2, above, above, above, 0, 0);
        CHECKS.dueBalance("below 0", after(g, below, below), g, 2, below, below, below, 0, 0);
        CHECKS.dueBalance("unlike signs, down", after(g, above, below), g, 2, below, below, above, above, minus);
        CHECKS.dueBalance("unlike signs, up", after(g, below, above), g, 2, above, below, above, above, one);
        CHECKS.dueBalance("only NOW", after(g, above, one), g, 2, one, one, above, above, minus);
        CHECKS.dueBalance("only v", after(g, one, below), g, 2, below, below, one, above, minus);
        CHECKS.dueBalance("SWING stays", after(g, 0, one, above, above), g, 4, above, 0, above, above, 0);
        CHECKS.dueBalance("two that are finite and alike", after(g, one, one), g, 2, one, one, one, 0, 0);
        BalanceRoom kept = after(g, below);
        CHECKS.due("kept", 2, () -> kept.keep(g));
        CHECKS.dueBalance("kept", kept, g, 2, below, below, below, 0, 0);
    }

    private static void countInAnyCase(int g) {
        CHECKS.about("COUNT is 1 more in any case");
        BalanceRoom room = new BalanceRoom();
        long[] readings = {Numbers.of(g, 1), Numbers.of(g, 1), 0, Numbers.of(g, -1)};
        for (int i = 0; i < 500; i++) {
            int count = i + 1;
            CHECKS.due("reading " + count, count, () -> room.read(g, readings[count % 4]));
        }
        CHECKS.due("COUNT", 500, () -> room.look(g, Checks.COUNT));
        CHECKS.due("kept", 501, () -> room.keep(g));
        CHECKS.due("COUNT", 501, () -> room.look(g, Checks.COUNT));
    }
}
