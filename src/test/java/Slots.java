/** Objects whose 64 slots hold a number each of its own, to see which of them a call changes. */
final class Slots {
    /** No slots: beside the ends, what a byte or six bits of would be a slot, and the ends of int. */
    static final int[] NONE = {
        -1, 64, 65, 127, 128, 256, 319, -64, -65, -256, Integer.MIN_VALUE, Integer.MAX_VALUE
    };

    private Slots() {
    }

    static long number(int slot) {
        long size = (slot + 1) * 1_000_003L;
        return slot % 2 == 0 ? size : -size;
    }

    /** 64 calls. */
    static ExactNumbers filled() {
        ExactNumbers x = new ExactNumbers();
        for (int slot = 0; slot < 64; slot++) {
            x.set(slot, number(slot), true);
        }
        return x;
    }

    /** 128 calls. */
    static void areUntouched(Checks checks, String call, ExactNumbers x) {
        for (int slot = 0; slot < 64; slot++) {
            isUntouched(checks, call, x, slot);
        }
    }

    /** 126 calls. */
    static void othersAreUntouched(Checks checks, String call, ExactNumbers x, int target) {
        for (int slot = 0; slot < 64; slot++) {
            if (slot != target) {
                isUntouched(checks, call, x, slot);
            }
        }
    }

    private static void isUntouched(Checks checks, String call, ExactNumbers x, int slot) {
        checks.due(call + ", then slot " + slot, x.cut(slot, 64, true), number(slot));
        checks.due(call + ", then slot " + slot + " fits", x.fits(slot, 64, true), true);
    }
}
