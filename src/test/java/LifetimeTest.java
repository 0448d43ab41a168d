/** The part 'What it is': how many calls an object is used for. */
public final class LifetimeTest {
    private static final int CALLS = 512;

    public static void main(String[] args) {
        Checks checks = new Checks();
        checks.sentence("An object is used for at most 512 calls after it has been made");
        changes(checks);
        digits(checks);
        divisions(checks);
        texts(checks);
        bytes(checks);
        wrongCalls(checks);
        checks.end();
    }

    /** 512 calls that each change a slot. */
    private static void changes(Checks checks) {
        ExactNumbers x = new ExactNumbers();
        for (int call = 1; call < CALLS; call++) {
            checks.due("set, call " + call, x.set(call % 64, call, true), ExactNumbers.FINE);
        }
        checks.due("cut, call 512", x.cut(63, 64, true), 511);
        ExactNumbers y = new ExactNumbers();
        y.set(0, -1, true);
        for (int call = 2; call < CALLS; call++) {
            checks.due("shift, call " + call, y.shift(0, 0, 1, true), ExactNumbers.FINE);
        }
        checks.due("bits, call 512", y.bits(0), 511);
    }

    /** Digits to the last call but one, and a read of them all. */
    private static void digits(Checks checks) {
        ExactNumbers x = new ExactNumbers();
        for (int call = 1; call < CALLS; call++) {
            checks.due("digits, call " + call, x.digits('1'), true);
        }
        checks.due("read, call 512", x.read(0, 2), ExactNumbers.FINE);
        ExactNumbers y = new ExactNumbers();
        for (int call = 1; call < CALLS; call++) {
            checks.due("digits, call " + call, y.digits(Numbers.word("zzzzzzzz")), call <= 125);
        }
        checks.due("read, call 512", y.read(0, 36), ExactNumbers.GREAT);
    }

    private static void divisions(Checks checks) {
        ExactNumbers x = Numbers.with(Numbers.GREATEST);
        x.set(1, -3, true);
        // 15 calls were made.
        for (int call = 16; call < CALLS - 1; call++) {
            checks.due("division, call " + call, x.work(3, 2, 0, 1), ExactNumbers.FINE);
        }
        checks.due("product of the quotient", x.work(2, 2, 2, 1), ExactNumbers.FINE);
        checks.due("the quotient was right", x.compare(2, 0), 0);
    }

    private static void texts(Checks checks) {
        ExactNumbers x = Numbers.with(Numbers.GREATEST.negate());
        for (int call = 16; call < CALLS; call++) {
            checks.due("write, call " + call, x.write(0, 2), 513);
        }
        checks.due("byteOf, call 512", x.byteOf(512), '1');
    }

    private static void bytes(Checks checks) {
        ExactNumbers x = new ExactNumbers();
        x.set(0, -1, true);
        x.shift(0, 0, 508, true);
        checks.due("write, call 3", x.write(0, 2), 510);
        checks.due("byteOf(0), call 4", x.byteOf(0), '-');
        checks.due("byteOf(1), call 5", x.byteOf(1), '1');
        for (int i = 2; i < 509; i++) {
            checks.due("byteOf(" + i + "), call " + (i + 4), x.byteOf(i), '0');
        }
    }

    /** Calls that are refused count too, and leave the object as it was. */
    private static void wrongCalls(Checks checks) {
        ExactNumbers x = new ExactNumbers();
        x.set(7, 77, true);
        for (int call = 2; call < CALLS; call++) {
            checks.due("wrong work, call " + call, x.work(9, 7, 7, 7), ExactNumbers.WRONG);
        }
        checks.due("cut, call 512", x.cut(7, 64, true), 77);
    }
}
