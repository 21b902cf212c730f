/** The CHECK reached by another way than the class: one long division of the whole text, bit by bit. */
final class Checks {
    /** 69665 as bits, the highest first. */
    private static final String DIVISOR = Integer.toBinaryString(69665);

    private Checks() {
    }

    static int of(int[] bytes) {
        int dividend = bytes.length * 8;
        // Sixteen bits of room for the rest; the start value falls on the first sixteen bits of all.
        boolean[] bits = new boolean[dividend + 16];
        for (int i = 0; i < bits.length; i++) {
            boolean given = i < dividend && (bytes[i / 8] >> (7 - i % 8)) % 2 != 0;
            bits[i] = i < 16 ? !given : given;
        }
        for (int i = 0; i < dividend; i++) {
            if (bits[i]) {
                subtractDivisor(bits, i);
            }
        }
        int rest = 0;
        for (int i = dividend; i < bits.length; i++) {
            rest = rest * 2 + (bits[i] ? 1 : 0);
        }
        return rest;
    }

    private static void subtractDivisor(boolean[] bits, int from) {
        for (int i = 0; i < DIVISOR.length(); i++) {
            bits[from + i] ^= DIVISOR.charAt(i) == '1';
        }
    }
}
