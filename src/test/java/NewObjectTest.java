/** Promise 1: a new object. */
public final class NewObjectTest {
    public static void main(String[] args) {
        Checks checks = new Checks();
        checks.sentence("All numbers are 0");
        numbersAreZero(checks, "first object", new ExactNumbers());
        checks.sentence("no digits");
        hasNoDigits(checks, "first object", new ExactNumbers());
        checks.sentence("All memory is the class's own");
        besideUsedOnes(checks);
        checks.end();
    }

    private static void numbersAreZero(Checks checks, String name, ExactNumbers x) {
        for (int slot = 0; slot < 64; slot++) {
            checks.due(name + ": bits of slot " + slot, x.bits(slot), 0);
            checks.due(name + ": slot " + slot + " beside slot 0", x.compare(slot, 0), 0);
            checks.due(name + ": length of slot " + slot, x.write(slot, 10), 1);
            checks.due(name + ": digit of slot " + slot, x.byteOf(0), '0');
        }
    }

    private static void hasNoDigits(Checks checks, String name, ExactNumbers x) {
        checks.due(name + ": read without digits", x.read(0, 10), ExactNumbers.WRONG);
        x.digits('7');
        checks.due(name + ": read of the first digit", x.read(0, 10), ExactNumbers.FINE);
        checks.due(name + ": the first digit alone", x.cut(0, 64, true), 7);
    }

    /** Objects made before and after another was used look new, and it keeps what it has. */
    private static void besideUsedOnes(Checks checks) {
        ExactNumbers before = new ExactNumbers();
        ExactNumbers used = Slots.EVEN_ABOVE.filled();
        used.write(1, 10);
        used.digits('1');
        ExactNumbers after = new ExactNumbers();
        for (ExactNumbers x : new ExactNumbers[] {before, after}) {
            checks.due("byteOf(0) beside a used object", x.byteOf(0), -1);
            numbersAreZero(checks, "object beside a used one", x);
            hasNoDigits(checks, "object beside a used one", x);
        }
        checks.due("text of the used object", Numbers.writtenLatest(used), "-2000006");
        checks.due("read in the used object", used.read(0, 10), ExactNumbers.FINE);
        checks.due("digit of the used object", used.cut(0, 64, true), 1);
        Slots.EVEN_ABOVE.othersAreUntouched(checks, "use of other objects", used, 0);
    }
}
