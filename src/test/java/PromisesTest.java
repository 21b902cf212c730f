/**
 * A method for each promise of the document: ordinary inputs, the edges it names, and wrong inputs.
 * No object gets more than 512 calls, since the document leaves free what comes behind them.
 */
public final class PromisesTest {
    private static final int NONE = MemoryBank.NONE;
    private static final int MIN = Integer.MIN_VALUE;
    private static final int MAX = Integer.MAX_VALUE;
    private static final int GAP_START = 100;
    private static final int GAP_END = 400;
    private static final Due due = new Due();

    public static void main(String[] args) {
        due.is("NONE", MemoryBank.NONE, -1);
        promise1NewObject();
        promise2Put();
        promise3Cut();
        promise4Size();
        promise5RowAt();
        promise6Load();
        promise6LoadRefusesAndChangesNothing();
        promise7Dump();
        promise7DumpRefusesAndChangesNothing();
        promise8Check();
        promise9RowCheck();
        promise10Seal();
        promise10SealWithoutRoom();
        promise11At();
        due.end();
    }

    private static void promise1NewObject() {
        MemoryBank x = new MemoryBank();
        due.is("1: size()", x.size(), 0);
        due.is("1: rowAt(0)", x.rowAt(0), NONE);
        for (int k = 0; k < 4096; k++) {
            due.is("1: at(" + k + ")", new MemoryBank().at(k), 0);
        }
        x.put(5);
        x.load(0, 1, 0);
        MemoryBank y = new MemoryBank();
        due.is("1: size() of another", y.size(), 0);
        due.is("1: at(0) of another", y.at(0), 0);
    }

    private static void promise2Put() {
        MemoryBank x = new MemoryBank();
        int[] given = {0, 1, 127, 128, 255, 256, 257, -1, -256, 0x12345678, MIN, MAX};
        int[] kept = {0, 1, 127, 128, 255, 0, 1, 255, 0, 0x78, 0, 255};
        for (int i = 0; i < given.length; i++) {
            due.is("2: put(" + given[i] + ")", x.put(given[i]), i + 1);
        }
        for (int i = 0; i < kept.length; i++) {
            due.is("2: rowAt(" + i + ") after put(" + given[i] + ")", x.rowAt(i), kept[i]);
        }
        MemoryBank full = rowOf(511);
        due.is("2: put(9) at 511", full.put(9), 512);
        due.is("2: put(8) at 512", full.put(8), NONE);
        due.is("2: size() after it", full.size(), 512);
        due.is("2: rowAt(511) after it", full.rowAt(511), 9);
        full.cut(511);
        due.is("2: put(7) after a cut", full.put(7), 512);
        due.is("2: rowAt(511) after a cut", full.rowAt(511), 7);
    }

    private static void promise3Cut() {
        MemoryBank x = rowOf(5);
        due.is("3: cut(6)", x.cut(6), false);
        due.is("3: cut(-1)", x.cut(-1), false);
        due.is("3: cut(MIN)", x.cut(MIN), false);
        due.is("3: cut(MAX)", x.cut(MAX), false);
        due.is("3: size() after refusals", x.size(), 5);
        due.is("3: cut(5)", x.cut(5), true);
        due.is("3: size() after cut(5)", x.size(), 5);
        due.is("3: cut(3)", x.cut(3), true);
        due.is("3: size() after cut(3)", x.size(), 3);
        due.is("3: rowAt(0)", x.rowAt(0), byteOf(0));
        due.is("3: rowAt(2)", x.rowAt(2), byteOf(2));
        due.is("3: rowAt(3)", x.rowAt(3), NONE);
        due.is("3: cut(4), once cut", x.cut(4), false);
        due.is("3: cut(0)", x.cut(0), true);
        due.is("3: size() after cut(0)", x.size(), 0);
        due.is("3: cut(0) of none", x.cut(0), true);
        due.is("3: cut(1) of none", x.cut(1), false);
        due.is("3: cut(512) of 512", rowOf(512).cut(512), true);
        due.is("3: cut(513) of 512", rowOf(512).cut(513), false);
    }

    private static void promise4Size() {
        MemoryBank x = new MemoryBank();
        due.is("4: size() of none", x.size(), 0);
        x.put(1);
        x.put(2);
        due.is("4: size() after two puts", x.size(), 2);
        x.dump(0, 10);
        due.is("4: size() after a dump", x.size(), 12);
        x.seal();
        due.is("4: size() after a seal", x.size(), 14);
        x.load(0, 14, 0);
        x.rowCheck(3);
        x.check(0, 3);
        due.is("4: size() after load and checks", x.size(), 14);
        x.cut(1);
        due.is("4: size() after a cut", x.size(), 1);
        due.is("4: size() of a full row", rowOf(512).size(), 512);
    }

    private static void promise5RowAt() {
        MemoryBank x = rowOf(3);
        for (int k = 0; k < 3; k++) {
            due.is("5: rowAt(" + k + ")", x.rowAt(k), byteOf(k));
        }
        due.is("5: rowAt(3)", x.rowAt(3), NONE);
        due.is("5: rowAt(-1)", x.rowAt(-1), NONE);
        due.is("5: rowAt(MIN)", x.rowAt(MIN), NONE);
        due.is("5: rowAt(MAX)", x.rowAt(MAX), NONE);
        MemoryBank full = rowOf(512);
        due.is("5: rowAt(511) of a full row", full.rowAt(511), byteOf(511));
        due.is("5: rowAt(512) of a full row", full.rowAt(512), NONE);
    }

    private static void promise6Load() {
        MemoryBank x = rowOf(6);
        due.is("6: load(2, 3, 100)", x.load(2, 3, 100), true);
        due.is("6: at(99)", x.at(99), 0);
        due.is("6: at(100)", x.at(100), byteOf(2));
        due.is("6: at(101)", x.at(101), byteOf(3));
        due.is("6: at(102)", x.at(102), byteOf(4));
        due.is("6: at(103)", x.at(103), 0);
        due.is("6: size() after it", x.size(), 6);
        due.is("6: rowAt(2) after it", x.rowAt(2), byteOf(2));
        due.is("6: load(5, 1, 4095)", x.load(5, 1, 4095), true);
        due.is("6: at(4095)", x.at(4095), byteOf(5));
        due.is("6: load(0, 6, 4090)", x.load(0, 6, 4090), true);
        due.is("6: at(4090)", x.at(4090), byteOf(0));
        due.is("6: load(0, 512, 3584)", rowOf(512).load(0, 512, 3584), true);
        due.is("6: load(0, 512, 0)", rowOf(512).load(0, 512, 0), true);
    }

    private static void promise6LoadRefusesAndChangesNothing() {
        int[][] refused = {
            {0, 0, 0}, {0, -1, 0}, {0, MIN, 0}, {0, 7, 0}, {0, MAX, 0}, {1, 6, 0}, {6, 1, 0}, {7, 1, 0},
            {6, 0, 0}, {-1, 1, 0}, {-1, 3, 0}, {MIN, 1, 0}, {MIN, MAX, 0}, {MIN, MIN, MIN}, {MAX, 1, 0},
            {MAX, MAX, MAX}, {5, MAX, 0}, {0, 1, 4096}, {0, 1, -1}, {0, 2, -1}, {0, 2, 4095}, {0, 6, 4091},
            {0, 1, MIN}, {0, 1, MAX}, {0, 6, MAX}, {0, 0, 4096}
        };
        MemoryBank x = rowOf(6);
        for (int[] r : refused) {
            String call = "6: load(" + r[0] + ", " + r[1] + ", " + r[2] + ")";
            due.is(call, x.load(r[0], r[1], r[2]), false);
            due.is(call + ", then size()", x.size(), 6);
            due.is(call + ", then check(0, 4096)", x.check(0, 4096), new MemoryBank().check(0, 4096));
            due.is(call + ", then at(0)", x.at(0), 0);
            due.is(call + ", then at(4095)", x.at(4095), 0);
        }
    }

    private static void promise7Dump() {
        MemoryBank x = rowOf(6);
        x.load(0, 6, 4090);
        x.cut(1);
        due.is("7: dump(4092, 3)", x.dump(4092, 3), true);
        due.is("7: size()", x.size(), 4);
        due.is("7: rowAt(0)", x.rowAt(0), byteOf(0));
        due.is("7: rowAt(1)", x.rowAt(1), byteOf(2));
        due.is("7: rowAt(3)", x.rowAt(3), byteOf(4));
        due.is("7: rowAt(4)", x.rowAt(4), NONE);
        due.is("7: at(4092) after it", x.at(4092), byteOf(2));
        due.is("7: dump(4095, 1)", x.dump(4095, 1), true);
        due.is("7: rowAt(4)", x.rowAt(4), byteOf(5));
        due.is("7: dump(0, 507)", x.dump(0, 507), true);
        due.is("7: size() when full", x.size(), 512);
        due.is("7: dump(0, 1) when full", x.dump(0, 1), false);
        due.is("7: dump(0, 512) of none", new MemoryBank().dump(0, 512), true);
        due.is("7: dump(3584, 512) of none", new MemoryBank().dump(3584, 512), true);
        due.is("7: dump(0, 513) of none", new MemoryBank().dump(0, 513), false);
    }

    private static void promise7DumpRefusesAndChangesNothing() {
        int[][] refused = {
            {0, 0}, {0, -1}, {0, MIN}, {0, MAX}, {0, 507}, {0, 4096}, {0, 4097}, {-1, 1}, {-1, 2}, {MIN, 1},
            {MIN, MAX}, {MAX, 1}, {MAX, MAX}, {MIN, MIN}, {4096, 1}, {4096, 0}, {4095, 2}, {4000, 97}, {4095, MAX}
        };
        MemoryBank x = rowOf(6);
        for (int[] r : refused) {
            String call = "7: dump(" + r[0] + ", " + r[1] + ")";
            due.is(call, x.dump(r[0], r[1]), false);
            due.is(call + ", then size()", x.size(), 6);
            due.is(call + ", then rowCheck(6)", x.rowCheck(6), rowOf(6).rowCheck(6));
        }
    }

    private static void promise8Check() {
        MemoryBank x = digits();
        x.load(0, 9, 100);
        due.is("8: check(100, 9)", x.check(100, 9), 10673);
        due.is("8: check(100, 0)", x.check(100, 0), 65535);
        due.is("8: check(0, 0)", x.check(0, 0), 65535);
        due.is("8: check(4096, 0)", x.check(4096, 0), 65535);
        due.is("8: check(4095, 1)", x.check(4095, 1), 57840);
        x.load(0, 9, 4087);
        due.is("8: check(4087, 9)", x.check(4087, 9), 10673);
        due.is("8: check(0, 4096) of zeros", new MemoryBank().check(0, 4096), Checks.of(new int[4096]));
        int[][] none = {
            {0, -1}, {0, MIN}, {4096, -1}, {-1, 0}, {-1, 1}, {-1, 2}, {4097, 0}, {4097, -1}, {4096, 1}, {4095, 2},
            {0, 4097}, {1, 4096}, {MIN, 0}, {MAX, 0}, {MIN, MIN}, {MAX, MAX}, {MIN, MAX}, {1, MAX}, {MAX, 1}
        };
        for (int[] r : none) {
            due.is("8: check(" + r[0] + ", " + r[1] + ")", x.check(r[0], r[1]), NONE);
        }
        due.is("8: size() after checks", x.size(), 9);
        due.is("8: at(100) after checks", x.at(100), 49);
    }

    private static void promise9RowCheck() {
        MemoryBank x = new MemoryBank();
        due.is("9: rowCheck(0) of none", x.rowCheck(0), 65535);
        due.is("9: rowCheck(1) of none", x.rowCheck(1), NONE);
        x = digits();
        due.is("9: rowCheck(9)", x.rowCheck(9), 10673);
        due.is("9: rowCheck(0)", x.rowCheck(0), 65535);
        due.is("9: rowCheck(1)", x.rowCheck(1), Checks.of(new int[] {49}));
        due.is("9: rowCheck(10)", x.rowCheck(10), NONE);
        due.is("9: rowCheck(-1)", x.rowCheck(-1), NONE);
        due.is("9: rowCheck(MIN)", x.rowCheck(MIN), NONE);
        due.is("9: rowCheck(MAX)", x.rowCheck(MAX), NONE);
        x.cut(8);
        due.is("9: rowCheck(9) after cut(8)", x.rowCheck(9), NONE);
        for (int b = 0; b < 256; b++) {
            x = new MemoryBank();
            x.put(b);
            due.is("9: rowCheck(1) of " + b, x.rowCheck(1), Checks.of(new int[] {b}));
        }
        // Behind 255 the check's low byte is 0, so that doubling meets 65536 itself too (at 127).
        for (int b = 0; b < 256; b++) {
            x = new MemoryBank();
            x.put(255);
            x.put(b);
            due.is("9: rowCheck(2) of 255, " + b, x.rowCheck(2), Checks.of(new int[] {255, b}));
        }
        MemoryBank full = rowOf(512);
        due.is("9: rowCheck(512)", full.rowCheck(512), Checks.of(bytes(512)));
        due.is("9: rowCheck(513)", full.rowCheck(513), NONE);
    }

    private static void promise10Seal() {
        MemoryBank x = digits();
        due.is("10: seal()", x.seal(), true);
        due.is("10: size()", x.size(), 11);
        due.is("10: rowAt(8)", x.rowAt(8), 57);
        due.is("10: rowAt(9)", x.rowAt(9), 41);
        due.is("10: rowAt(10)", x.rowAt(10), 177);
        due.is("10: rowCheck(11)", x.rowCheck(11), 0);
        due.is("10: seal() again", x.seal(), true);
        due.is("10: rowAt(11)", x.rowAt(11), 0);
        due.is("10: rowAt(12)", x.rowAt(12), 0);
        MemoryBank empty = new MemoryBank();
        due.is("10: seal() of none", empty.seal(), true);
        due.is("10: size() after it", empty.size(), 2);
        due.is("10: rowAt(0) after it", empty.rowAt(0), 255);
        due.is("10: rowAt(1) after it", empty.rowAt(1), 255);
    }

    private static void promise10SealWithoutRoom() {
        MemoryBank x = rowOf(510);
        due.is("10: seal() at 510", x.seal(), true);
        due.is("10: size() after it", x.size(), 512);
        int c = Checks.of(bytes(510));
        due.is("10: rowAt(510) after it", x.rowAt(510), c / 256);
        due.is("10: rowAt(511) after it", x.rowAt(511), c % 256);
        due.is("10: seal() at 512", x.seal(), false);
        due.is("10: size() still", x.size(), 512);
        x.cut(511);
        due.is("10: seal() at 511", x.seal(), false);
        due.is("10: size() at 511 still", x.size(), 511);
        due.is("10: rowAt(510) still", x.rowAt(510), c / 256);
    }

    private static void promise11At() {
        for (int from = 0; from < 4096; from += 128) {
            MemoryBank x = rowOf(512);
            for (int place = 0; place < 4096; place += 512) {
                x.load(0, 512, place);
            }
            for (int k = from; k < from + 128; k++) {
                due.is("11: at(" + k + ")", x.at(k), byteOf(k % 512));
            }
        }
        MemoryBank x = new MemoryBank();
        due.is("11: at(4096)", x.at(4096), NONE);
        due.is("11: at(-1)", x.at(-1), NONE);
        due.is("11: at(MIN)", x.at(MIN), NONE);
        due.is("11: at(MAX)", x.at(MAX), NONE);
    }

    private static int byteOf(int k) {
        return isGap(k) ? 0 : (k * 37 + 200 + k / 256) % 256;
    }

    /** A long row has zeros of the memory in its midst, which one call brings. */
    private static boolean isGap(int k) {
        return k >= GAP_START && k < GAP_END;
    }

    private static int[] bytes(int n) {
        int[] all = new int[n];
        for (int k = 0; k < n; k++) {
            all[k] = byteOf(k);
        }
        return all;
    }

    private static MemoryBank rowOf(int n) {
        MemoryBank x = new MemoryBank();
        for (int k = 0; k < n; k++) {
            if (!isGap(k)) {
                x.put(byteOf(k));
            } else if (k == GAP_START) {
                x.dump(0, Math.min(n, GAP_END) - GAP_START);
            }
        }
        return x;
    }

    private static MemoryBank digits() {
        MemoryBank x = new MemoryBank();
        for (int b = '1'; b <= '9'; b++) {
            x.put(b);
        }
        return x;
    }
}
