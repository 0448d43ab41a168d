/** All promises together: long runs of calls of all kinds, each answer beside the model's. */
public final class RunsTest {
    private static final int RUNS = 3000;
    private static final int MOST_CALLS = 512;
    /** One step makes some calls, so many at the most. */
    private static final int MOST_WORDS = 12;

    private final Checks checks;
    private final Sequence sequence;
    private final ExactNumbers x = new ExactNumbers();
    private final Model model = new Model();
    private final int slots;
    private int calls = 0;
    private String step = "";

    private RunsTest(Checks checks, int run) {
        this.checks = checks;
        sequence = new Sequence(run);
        // Few slots let the numbers of one call meet those of another.
        slots = 2 + sequence.below(run % 2 == 0 ? 4 : 62);
    }

    public static void main(String[] args) {
        Checks checks = new Checks();
        for (int run = 0; run < RUNS; run++) {
            RunsTest test = new RunsTest(checks, run);
            while (test.calls + MOST_WORDS <= MOST_CALLS) {
                test.oneStep(run);
            }
        }
        checks.end();
    }

    private void due(String call, long got, long want) {
        calls++;
        checks.due(step + call, got, want);
    }

    private int slot() {
        int[] wrong = {-1, 64, Integer.MIN_VALUE, Integer.MAX_VALUE};
        return sequence.below(60) == 0 ? wrong[sequence.below(4)] : sequence.below(slots);
    }

    private int upTo(int most) {
        return sequence.below(most + 3) - 1;
    }

    private long value() {
        return sequence.coin() ? sequence.next() >> sequence.below(64) : sequence.below(5) - 2;
    }

    private long word() {
        StringBuilder text = new StringBuilder();
        String letters = "0123456789abcdefghijklmnopqrstuvwxyzABCDEFGHIJKLMNOPQRSTUVWXYZ";
        int base = sequence.coin() ? 10 : letters.length();
        for (int i = 0; i < 8; i++) {
            text.append(sequence.below(12) == 0 ? (char) 0 : letters.charAt(sequence.below(base)));
        }
        if (sequence.below(30) == 0) {
            text.setCharAt(sequence.below(8), (char) sequence.below(256));
        }
        return Numbers.word(text.toString());
    }

    private void oneStep(int run) {
        step = "run " + run + ", after " + calls + " calls: ";
        switch (sequence.below(14)) {
            case 0: set(); break;
            case 1: digits(); break;
            case 2: read(); break;
            case 3: shift(); break;
            case 4: turn(); break;
            case 5: compare(); break;
            case 6: bits(); break;
            case 7: fits(); break;
            case 8: cut(); break;
            case 9: write(); break;
            case 10: byteOf(); break;
            default: work(); break;
        }
    }

    private void set() {
        int s = slot();
        long v = value();
        boolean sign = sequence.coin();
        due("set(" + s + ", " + v + ", " + sign + ")",
                x.set(s, v, sign), model.set(s, v, sign));
    }

    private void digits() {
        for (int i = sequence.below(MOST_WORDS); i >= 0; i--) {
            long word = word();
            due("digits(" + word + ")", x.digits(word) ? 1 : 0, model.digits(word) ? 1 : 0);
        }
    }

    private void read() {
        int s = slot();
        int base = sequence.coin() ? 36 : upTo(36);
        due("read(" + s + ", " + base + ")", x.read(s, base), model.read(s, base));
    }

    private void work() {
        int op = upTo(8);
        int s = slot();
        int a = slot();
        int b = slot();
        due("work(" + op + ", " + s + ", " + a + ", " + b + ")",
                x.work(op, s, a, b), model.work(op, s, a, b));
        due("compare after work", x.compare(s, a), model.compare(s, a));
    }

    private void shift() {
        int s = slot();
        int a = slot();
        int n = sequence.coin() ? upTo(1000) : upTo(200);
        boolean left = sequence.below(3) != 0;
        due("shift(" + s + ", " + a + ", " + n + ", " + left + ")",
                x.shift(s, a, n, left), model.shift(s, a, n, left));
    }

    private void turn() {
        int s = slot();
        int a = slot();
        boolean not = sequence.coin();
        due("turn(" + s + ", " + a + ", " + not + ")",
                x.turn(s, a, not), model.turn(s, a, not));
    }

    private void compare() {
        int a = slot();
        int b = slot();
        due("compare(" + a + ", " + b + ")", x.compare(a, b), model.compare(a, b));
    }

    private void bits() {
        int a = slot();
        due("bits(" + a + ")", x.bits(a), model.bits(a));
    }

    private void fits() {
        int a = slot();
        int bits = upTo(64);
        boolean sign = sequence.coin();
        due("fits(" + a + ", " + bits + ", " + sign + ")",
                x.fits(a, bits, sign) ? 1 : 0, model.fits(a, bits, sign) ? 1 : 0);
    }

    private void cut() {
        int a = slot();
        int bits = upTo(64);
        boolean sign = sequence.coin();
        due("cut(" + a + ", " + bits + ", " + sign + ")",
                x.cut(a, bits, sign), model.cut(a, bits, sign));
    }

    private void write() {
        int a = slot();
        int base = upTo(36);
        due("write(" + a + ", " + base + ")", x.write(a, base), model.write(a, base));
    }

    private void byteOf() {
        for (int count = 0; count < 4; count++) {
            int i = upTo(sequence.coin() ? 512 : 40);
            due("byteOf(" + i + ")", x.byteOf(i), model.byteOf(i));
        }
    }
}
