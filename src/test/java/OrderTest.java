/** Promise 3. */
public final class OrderTest {
    public static void main(String[] args) {
        Checks checks = new Checks();
        for (int code = 0; code <= 12; code++) {
            operandsOf(checks, code);
        }
        wrongCodes(checks);
        fullTape(checks);
        checks.end();
    }

    private static int greatestOperand(int code) {
        switch (code) {
            case 5: case 6: case 7: case 9: case 11:
                return 15;
            case 8:
                return 20;
            default:
                return 0;
        }
    }

    private static void operandsOf(Checks checks, int code) {
        int most = greatestOperand(code);
        for (int k = 0; k <= most; k++) {
            BalanceRoom room = new BalanceRoom();
            int operand = k;
            checks.due("order(" + code + ", " + k + ")", 1, () -> room.order(code, operand));
            checks.due("and again", 2, () -> room.order(code, operand));
        }
        int[] wrong = {-1, most + 1, 21, Integer.MIN_VALUE, Integer.MAX_VALUE};
        for (int k : wrong) {
            BalanceRoom room = new BalanceRoom();
            checks.dueThrow("order(" + code + ", " + k + ")", Checks.ARGUMENT, () -> room.order(code, k));
            checks.due("nothing came to the tape", 0, () -> room.wipe());
        }
    }

    private static void wrongCodes(Checks checks) {
        int[] wrong = {-1, 13, 14, Integer.MIN_VALUE, Integer.MAX_VALUE};
        for (int code : wrong) {
            BalanceRoom room = new BalanceRoom();
            checks.dueThrow("order(" + code + ", 0)", Checks.ARGUMENT, () -> room.order(code, 0));
            checks.due("nothing came to the tape", 0, () -> room.wipe());
        }
    }

    private static void fullTape(Checks checks) {
        BalanceRoom room = new BalanceRoom();
        room.read(0, 7);
        for (int i = 1; i <= 12; i++) {
            checks.due("order " + i, i, () -> room.order(Checks.TURN, 0));
        }
        checks.dueThrow("the 13th order", Checks.STATE, () -> room.order(Checks.TURN, 0));
        checks.dueThrow("a wrong code comes first", Checks.ARGUMENT, () -> room.order(13, 0));
        checks.dueThrow("a wrong k comes first", Checks.ARGUMENT, () -> room.order(Checks.TURN, 1));
        checks.dueThrow("a wrong k of STEP comes first", Checks.ARGUMENT, () -> room.order(Checks.STEP, 21));
        checks.due("turned twelve times", 7, () -> room.show(0));
        checks.due("twelve", 12, () -> room.wipe());
        checks.due("room again", 1, () -> room.order(Checks.TURN, 0));
    }
}
