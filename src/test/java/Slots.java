/** Numbers for all 64 slots, each of its own, to see which of them a call changes. */
final class Slots {
    /** No slots: beside the ends, what a byte or six bits of would be a slot, and the ends of int. */
    static final int[] NONE = {
        -1, 64, 65, 127, 128, 256, 319, -64, -65, -256, Integer.MIN_VALUE, Integer.MAX_VALUE
    };
    /** The slots with even numbers hold what is above 0, the others what is below 0. */
    static final Slots EVEN_ABOVE = new Slots(1);
    /** Both ways: a sign that a call puts on a slot may be the one that it has already. */
    static final Slots[] BOTH_WAYS = {EVEN_ABOVE, new Slots(-1)};

    private final int evenSign;

    private Slots(int evenSign) {
        this.evenSign = evenSign;
    }

    long number(int slot) {
        long size = (slot + 1) * 1_000_003L;
        return slot % 2 == 0 ? evenSign * size : -evenSign * size;
    }

    /** 64 calls. */
    ExactNumbers filled() {
        ExactNumbers x = new ExactNumbers();
        for (int slot = 0; slot < 64; slot++) {
            x.set(slot, number(slot), true);
        }
        return x;
    }

    /** As filled, but slot 8 is the greatest number and slot 9 is 0; some 80 calls. */
    ExactNumbers filledWithEnds() {
        ExactNumbers x = filled();
        Numbers.put(x, 8, Numbers.GREATEST);
        x.set(9, 0, true);
        return x;
    }

    /** Some 230 calls. */
    void areUntouchedWithEnds(Checks checks, String call, ExactNumbers x) {
        checks.due(call + ", then slot 8", Numbers.take(x, 8), Numbers.GREATEST);
        checks.due(call + ", then slot 9", x.bits(9), 0);
        x.set(8, number(8), true);
        othersAreUntouched(checks, call, x, 9);
    }

    /** 128 calls. */
    void areUntouched(Checks checks, String call, ExactNumbers x) {
        for (int slot = 0; slot < 64; slot++) {
            isUntouched(checks, call, x, slot);
        }
    }

    /** 126 calls. */
    void othersAreUntouched(Checks checks, String call, ExactNumbers x, int target) {
        for (int slot = 0; slot < 64; slot++) {
            if (slot != target) {
                isUntouched(checks, call, x, slot);
            }
        }
    }

    private void isUntouched(Checks checks, String call, ExactNumbers x, int slot) {
        checks.due(call + ", then slot " + slot, x.cut(slot, 64, true), number(slot));
        checks.due(call + ", then slot " + slot + " fits", x.fits(slot, 64, true), true);
    }
}
