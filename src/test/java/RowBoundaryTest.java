/**
 * Promises 1 to 5, 9 and 10: a method for each boundary case that the document's sentences name, on both sides
 * of the boundary. Every call is followed by a look at the whole memory and the whole row.
 */
public final class RowBoundaryTest {
    private static final int NONE = MemoryBank.NONE;
    private static final int MIN = Integer.MIN_VALUE;
    private static final int MAX = Integer.MAX_VALUE;
    private static final int FULL = 512;
    private static final int[] SIZES = {0, 1, 6, 511, FULL};

    private static final Due due = new Due();
    private static final Look look = new Look(due);

    public static void main(String[] args) {
        newMemoryIsZeroAndNewRowEmpty();
        newRowHasNothingToTake();
        newObjectSharesNothing();
        putKeepsTheLowestEightBits();
        putTellsHowManyFromTheFirstOn();
        putFillsTheLastByte();
        putIsRefusedWhenFull();
        putHasRoomAgainBehindACut();
        cutToZeroAndBelow();
        cutToAllAndMore();
        cutByOneByte();
        cutBytesAreGone();
        sizeOfEmptyAndFull();
        sizeBehindRefusedCalls();
        rowAtTheFirstAndBelow();
        rowAtTheLastAndBehind();
        rowAtACutByte();
        rowCheckOfNone();
        rowCheckBelowZero();
        rowCheckOfAllAndMore();
        rowCheckOfCutBytes();
        rowCheckDoublesAtItsLimit();
        sealHasRoom();
        sealHasNoRoom();
        sealOfAnEmptyRow();
        sealHasTheHigherByteFirst();
        sealOfASealedRow();
        due.end();
    }

    private static void newMemoryIsZeroAndNewRowEmpty() {
        look.unchanged("1: new, size()", Scene.newObject(), x -> x.size(), 0);
    }

    private static void newRowHasNothingToTake() {
        look.unchanged("1: new, cut(1)", Scene.newObject(), x -> x.cut(1), false);
        look.unchanged("1: new, load(0, 1, 0)", Scene.newObject(), x -> x.load(0, 1, 0), false);
        look.unchanged("1: new, rowCheck(1)", Scene.newObject(), x -> x.rowCheck(1), NONE);
    }

    /** "All memory is the bank's own": what is done with another object is not seen. */
    private static void newObjectSharesNothing() {
        look.unchanged("1: new, then another is used, size()", Scene.newObject(), x -> {
            Scene.withRow(FULL).bank();
            return x.size();
        }, 0);
    }

    private static void putKeepsTheLowestEightBits() {
        int[] given = {0, 1, 127, 128, 254, 255, 256, 257, 511, 512, -1, -128, -255, -256, -257, MIN, MIN + 1, MAX - 1, MAX};
        int[] kept = {0, 1, 127, 128, 254, 255, 0, 1, 255, 0, 255, 128, 1, 0, 255, 0, 1, 254, 255};
        for (int i = 0; i < given.length; i++) {
            putDone(6, given[i], kept[i]);
        }
    }

    private static void putTellsHowManyFromTheFirstOn() {
        putDone(0, 9, 9);
        putDone(1, 9, 9);
    }

    private static void putFillsTheLastByte() {
        putDone(510, 9, 9);
        putDone(511, 9, 9);
        putDone(511, MIN, 0);
        putDone(511, MAX, 255);
    }

    private static void putIsRefusedWhenFull() {
        for (int b : new int[] {0, 9, -1, 256, MIN, MAX}) {
            look.unchanged("2: put(" + b + ")", Scene.withRow(FULL), x -> x.put(b), NONE);
        }
    }

    private static void putHasRoomAgainBehindACut() {
        Scene scene = Scene.withRow(FULL);
        look.changed("2: put(8), cut(511), put(9)", scene, x -> {
            x.put(8);
            x.cut(511);
            return x.put(9);
        }, FULL, scene.state().cutTo(511).behind(9));
    }

    private static void putDone(int size, int b, int kept) {
        Scene scene = Scene.withRow(size);
        look.changed("2: put(" + b + ")", scene, x -> x.put(b), size + 1, scene.state().behind(kept));
    }

    private static void cutToZeroAndBelow() {
        for (int size : SIZES) {
            cutDone(size, 0);
            cutRefused(size, -1);
            cutRefused(size, -size - 1);
            cutRefused(size, MIN);
            cutRefused(size, MIN + 1);
        }
    }

    private static void cutToAllAndMore() {
        for (int size : SIZES) {
            cutDone(size, size);
            cutRefused(size, size + 1);
            cutRefused(size, MAX - 1);
            cutRefused(size, MAX);
        }
        // The row's bytes of old are still where these cuts would bring them back.
        cutRefused(6, FULL);
        cutRefused(6, FULL + 1);
    }

    private static void cutByOneByte() {
        cutDone(1, 0);
        cutDone(6, 5);
        cutDone(FULL, 511);
    }

    private static void cutBytesAreGone() {
        Scene scene = Scene.withRow(6);
        look.changed("3: cut(3), cut(6)", scene, x -> {
            x.cut(3);
            return x.cut(6);
        }, false, scene.state().cutTo(3));
        look.changed("3: cut(3), put(9)", scene, x -> {
            x.cut(3);
            return x.put(9);
        }, 4, scene.state().cutTo(3).behind(9));
    }

    private static void cutDone(int size, int n) {
        Scene scene = Scene.withRow(size);
        look.changed("3: cut(" + n + ")", scene, x -> x.cut(n), true, scene.state().cutTo(n));
    }

    private static void cutRefused(int size, int n) {
        look.unchanged("3: cut(" + n + ")", Scene.withRow(size), x -> x.cut(n), false);
    }

    private static void sizeOfEmptyAndFull() {
        for (int size : SIZES) {
            look.unchanged("4: size()", Scene.withRow(size), x -> x.size(), size);
        }
    }

    private static void sizeBehindRefusedCalls() {
        look.unchanged("4: put(1), size()", Scene.withRow(FULL), x -> {
            x.put(1);
            return x.size();
        }, FULL);
        look.unchanged("4: seal(), size()", Scene.withRow(511), x -> {
            x.seal();
            return x.size();
        }, 511);
        look.unchanged("4: cut(-1), cut(1), size()", Scene.withRow(0), x -> {
            x.cut(-1);
            x.cut(1);
            return x.size();
        }, 0);
        look.unchanged("4: dump(0, 2), size()", Scene.withRow(511), x -> {
            x.dump(0, 2);
            return x.size();
        }, 511);
    }

    private static void rowAtTheFirstAndBelow() {
        for (int size : SIZES) {
            rowAt(size, 0, Scene.withRow(size).state().rowAt(0));
            rowAt(size, -1, NONE);
            rowAt(size, MIN, NONE);
            rowAt(size, MIN + 1, NONE);
        }
    }

    private static void rowAtTheLastAndBehind() {
        for (int size : SIZES) {
            if (size > 0) {
                rowAt(size, size - 1, Scene.withRow(size).state().rowAt(size - 1));
            }
            rowAt(size, size, NONE);
            rowAt(size, FULL, NONE);
            rowAt(size, MAX - 1, NONE);
            rowAt(size, MAX, NONE);
        }
    }

    private static void rowAtACutByte() {
        Scene scene = Scene.withRow(6);
        look.changed("5: cut(5), rowAt(5)", scene, x -> {
            x.cut(5);
            return x.rowAt(5);
        }, NONE, scene.state().cutTo(5));
    }

    private static void rowAt(int size, int k, int want) {
        look.unchanged("5: rowAt(" + k + ")", Scene.withRow(size), x -> x.rowAt(k), want);
    }

    private static void rowCheckOfNone() {
        for (int size : SIZES) {
            rowCheck(size, 0, 65535);
        }
    }

    private static void rowCheckBelowZero() {
        for (int size : SIZES) {
            rowCheck(size, -1, NONE);
            rowCheck(size, MIN, NONE);
            rowCheck(size, MIN + 1, NONE);
        }
    }

    private static void rowCheckOfAllAndMore() {
        for (int size : SIZES) {
            rowCheck(size, size, Scene.withRow(size).state().rowCheck(size));
            rowCheck(size, size + 1, NONE);
            rowCheck(size, FULL + 1, NONE);
            rowCheck(size, MAX - 1, NONE);
            rowCheck(size, MAX, NONE);
        }
        rowCheck(6, 1, Scene.withRow(6).state().rowCheck(1));
        rowCheck(6, 5, Scene.withRow(6).state().rowCheck(5));
        rowCheck(FULL, 511, Scene.withRow(FULL).state().rowCheck(511));
    }

    private static void rowCheckOfCutBytes() {
        Scene scene = Scene.withRow(6);
        look.changed("9: cut(5), rowCheck(6)", scene, x -> {
            x.cut(5);
            return x.rowCheck(6);
        }, NONE, scene.state().cutTo(5));
    }

    /** "if that is 65536 or more": the first doubling gives 65534 behind 128, and 65536 behind 255, 127. */
    private static void rowCheckDoublesAtItsLimit() {
        State empty = Scene.newObject().state();
        look.changed("9: put(128), rowCheck(1)", Scene.newObject(), x -> {
            x.put(128);
            return x.rowCheck(1);
        }, 28792, empty.behind(128));
        look.changed("9: put(255), put(127), rowCheck(2)", Scene.newObject(), x -> {
            x.put(255);
            x.put(127);
            return x.rowCheck(2);
        }, 37256, empty.behind(255, 127));
    }

    private static void rowCheck(int size, int n, int want) {
        look.unchanged("9: rowCheck(" + n + ")", Scene.withRow(size), x -> x.rowCheck(n), want);
    }

    private static void sealHasRoom() {
        for (int size : new int[] {1, 6, 509, 510}) {
            Scene scene = Scene.withRow(size);
            int c = scene.state().rowCheck(size);
            look.changed("10: seal()", scene, x -> x.seal(), true, scene.state().behind(c / 256, c % 256));
        }
    }

    /** With 511 there is room for one of the two bytes: that one does not come either. */
    private static void sealHasNoRoom() {
        look.unchanged("10: seal()", Scene.withRow(511), x -> x.seal(), false);
        look.unchanged("10: seal()", Scene.withRow(FULL), x -> x.seal(), false);
    }

    private static void sealOfAnEmptyRow() {
        for (Scene scene : new Scene[] {Scene.newObject(), Scene.withRow(0)}) {
            look.changed("10: seal()", scene, x -> x.seal(), true, scene.state().behind(255, 255));
        }
    }

    /** The check of 14 is 62 and that of 255 is 65280: one has no higher byte but 0, the other no lower one. */
    private static void sealHasTheHigherByteFirst() {
        State empty = Scene.newObject().state();
        look.changed("10: put(14), seal()", Scene.newObject(), x -> {
            x.put(14);
            return x.seal();
        }, true, empty.behind(14, 0, 62));
        look.changed("10: put(255), seal()", Scene.newObject(), x -> {
            x.put(255);
            return x.seal();
        }, true, empty.behind(255, 255, 0));
    }

    /** The check of a row with its check behind it is 0, which comes as two bytes all the same. */
    private static void sealOfASealedRow() {
        Scene scene = Scene.withRow(6);
        int c = scene.state().rowCheck(6);
        look.changed("10: seal(), seal()", scene, x -> {
            x.seal();
            return x.seal();
        }, true, scene.state().behind(c / 256, c % 256, 0, 0));
    }
}
