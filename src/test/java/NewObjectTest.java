/** Promise 1: all numbers are 0; no digits; nothing shared between objects. */
public final class NewObjectTest {
    public static void main(String[] args) {
        Checks checks = new Checks();
        looksNew(checks, "first object", new ExactNumbers());
        ExactNumbers used = Numbers.with(Numbers.MARK, Numbers.GREATEST);
        used.digits('1');
        used.write(0, 10);
        looksNew(checks, "object beside a used one", new ExactNumbers());
        checks.due("used object", Numbers.take(used, 0), Numbers.MARK);
        checks.end();
    }

    private static void looksNew(Checks checks, String name, ExactNumbers x) {
        checks.due(name + ": byteOf(0)", x.byteOf(0), -1);
        for (int slot = 0; slot < 64; slot++) {
            checks.due(name + ": bits of slot " + slot, x.bits(slot), 0);
            checks.due(name + ": slot " + slot + " beside slot 0", x.compare(slot, 0), 0);
            checks.due(name + ": length of slot " + slot, x.write(slot, 10), 1);
            checks.due(name + ": digit of slot " + slot, x.byteOf(0), '0');
        }
        checks.due(name + ": bits(64)", x.bits(64), -1);
        checks.due(name + ": read without digits", x.read(0, 10), ExactNumbers.WRONG);
    }
}
