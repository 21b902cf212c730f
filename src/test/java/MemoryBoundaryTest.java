/**
 * Promises 6, 7, 8 and 11: a method for each boundary case that the document's sentences name, on both sides
 * of the boundary. Every call is followed by a look at the whole memory and the whole row.
 */
public final class MemoryBoundaryTest {
    private static final int NONE = MemoryBank.NONE;
    private static final int MIN = Integer.MIN_VALUE;
    private static final int MAX = Integer.MAX_VALUE;
    private static final int FULL = 512;
    private static final int END = 4096;
    /** Sums and differences of these wrap around, and come out as 0, as 6 or as some other small number too. */
    private static final int[] FAR = {MIN, MIN + 1, MIN + 6, MAX - END, MAX - 5, MAX};
    private static final int[] NEAR = {-1, 0, 1, 6};

    private static final Due due = new Due();
    private static final Look look = new Look(due);

    public static void main(String[] args) {
        loadOfOneByteAndLess();
        loadFromTheRowsStart();
        loadToTheRowsEnd();
        loadFromAnEmptyRow();
        loadFromAFullRow();
        loadOfCutBytes();
        loadToTheMemorysStart();
        loadToTheMemorysEnd();
        loadOfFarNumbers();
        dumpOfOneByteAndLess();
        dumpFromTheMemorysStart();
        dumpFromTheMemorysEnd();
        dumpIntoAnEmptyRow();
        dumpIntoTheRoomThatIsLeft();
        dumpIntoAFullRow();
        dumpOfFarNumbers();
        checkOfNone();
        checkOfLessThanNone();
        checkFromTheMemorysStart();
        checkToTheMemorysEnd();
        checkOfTheWholeMemory();
        checkOfFarNumbers();
        atTheFirstAndBelow();
        atTheLastAndBehind();
        due.end();
    }

    /** "if n is below 1" */
    private static void loadOfOneByteAndLess() {
        loadDone(6, 0, 1, 0);
        loadDone(6, 3, 1, 2000);
        for (int n : new int[] {0, -1, -6, MIN}) {
            loadRefused(6, 0, n, 0);
            loadRefused(6, 3, n, 2000);
            loadRefused(6, 6, n, END);
            loadRefused(FULL, FULL, n, END);
            loadRefused(0, 0, n, 0);
        }
    }

    /** "not all of these are in the row": some, or all, stand before its first byte. */
    private static void loadFromTheRowsStart() {
        loadDone(6, 0, 2, 0);
        loadRefused(6, -1, 1, 0);
        loadRefused(6, -1, 2, 0);
        loadRefused(6, -6, 6, 0);
        loadRefused(6, -1, 7, 0);
        loadRefused(6, -1, 1, 2000);
    }

    /** "not all of these are in the row": some, or all, stand behind its last byte. */
    private static void loadToTheRowsEnd() {
        loadDone(6, 5, 1, 0);
        loadDone(6, 4, 2, 0);
        loadDone(6, 1, 5, 0);
        loadDone(6, 0, 6, 0);
        loadRefused(6, 6, 1, 0);
        loadRefused(6, 7, 1, 0);
        loadRefused(6, 5, 2, 0);
        loadRefused(6, 1, 6, 0);
        loadRefused(6, 0, 7, 0);
        loadRefused(6, 0, FULL, 0);
        loadDone(511, 0, 511, 0);
        loadRefused(511, 0, FULL, 0);
    }

    private static void loadFromAnEmptyRow() {
        loadRefused(0, 0, 1, 0);
        loadRefused(0, -1, 1, 0);
        loadRefused(0, -1, 2, 0);
        loadRefused(0, 0, FULL, 0);
        loadDone(1, 0, 1, 0);
        loadRefused(1, 1, 1, 0);
    }

    private static void loadFromAFullRow() {
        loadDone(FULL, 0, FULL, 0);
        loadDone(FULL, 511, 1, 0);
        loadDone(FULL, 1, 511, 0);
        loadRefused(FULL, 0, FULL + 1, 0);
        loadRefused(FULL, 1, FULL, 0);
        loadRefused(FULL, 511, 2, 0);
        loadRefused(FULL, FULL, 1, 0);
        loadRefused(FULL, 0, END, 0);
        loadRefused(FULL, 0, END + 1, 0);
    }

    private static void loadOfCutBytes() {
        Scene scene = Scene.withRow(6);
        look.changed("6: cut(5), load(5, 1, 0)", scene, x -> {
            x.cut(5);
            return x.load(5, 1, 0);
        }, false, scene.state().cutTo(5));
    }

    /** "not all of those in the memory": some, or all, stand before its first byte. */
    private static void loadToTheMemorysStart() {
        loadDone(6, 0, 6, 0);
        loadDone(6, 2, 3, 1);
        loadRefused(6, 0, 1, -1);
        loadRefused(6, 0, 2, -1);
        loadRefused(6, 0, 6, -1);
        loadRefused(6, 0, 6, -6);
        loadRefused(FULL, 0, FULL, -1);
        loadRefused(FULL, 0, FULL, -FULL);
    }

    /** "not all of those in the memory": some, or all, stand behind its last byte. */
    private static void loadToTheMemorysEnd() {
        loadDone(6, 0, 1, 4095);
        loadDone(6, 5, 1, 4095);
        loadDone(6, 0, 2, 4094);
        loadDone(6, 0, 6, 4090);
        loadDone(FULL, 0, FULL, 3584);
        loadRefused(6, 0, 1, END);
        loadRefused(6, 0, 1, END + 1);
        loadRefused(6, 0, 2, 4095);
        loadRefused(6, 0, 6, 4091);
        loadRefused(6, 0, 6, 4095);
        loadRefused(FULL, 0, FULL, 3585);
        loadRefused(FULL, 0, FULL, 4095);
    }

    private static void loadOfFarNumbers() {
        for (int far : FAR) {
            for (int a : NEAR) {
                for (int b : NEAR) {
                    loadRefused(6, far, a, b);
                    loadRefused(6, a, far, b);
                    loadRefused(6, a, b, far);
                }
            }
            for (int other : FAR) {
                loadRefused(6, far, other, 0);
                loadRefused(6, 0, far, other);
                loadRefused(6, far, 1, other);
                loadRefused(6, far, other, far);
            }
        }
    }

    private static void loadDone(int size, int k, int n, int place) {
        Scene scene = Scene.withRow(size);
        look.changed(loadText(k, n, place), scene, x -> x.load(k, n, place), true, scene.state().loaded(k, n, place));
    }

    private static void loadRefused(int size, int k, int n, int place) {
        look.unchanged(loadText(k, n, place), Scene.withRow(size), x -> x.load(k, n, place), false);
    }

    private static String loadText(int k, int n, int place) {
        return "6: load(" + k + ", " + n + ", " + place + ")";
    }

    /** "if n is below 1" */
    private static void dumpOfOneByteAndLess() {
        dumpDone(6, 0, 1);
        dumpDone(6, 2000, 1);
        for (int n : new int[] {0, -1, -6, MIN}) {
            dumpRefused(6, 0, n);
            dumpRefused(6, 2000, n);
            dumpRefused(6, END, n);
            dumpRefused(0, 0, n);
            dumpRefused(FULL, 0, n);
        }
    }

    /** "not all are in the memory": some, or all, stand before its first byte. */
    private static void dumpFromTheMemorysStart() {
        dumpDone(6, 0, 2);
        dumpDone(6, 1, 2);
        dumpRefused(6, -1, 1);
        dumpRefused(6, -1, 2);
        dumpRefused(6, -6, 6);
        dumpRefused(0, -1, FULL);
        dumpRefused(0, -FULL, FULL);
    }

    /** "not all are in the memory": some, or all, stand behind its last byte. */
    private static void dumpFromTheMemorysEnd() {
        dumpDone(6, 4095, 1);
        dumpDone(6, 4094, 2);
        dumpDone(6, 4000, 96);
        dumpDone(0, 3584, FULL);
        dumpRefused(6, END, 1);
        dumpRefused(6, END + 1, 1);
        dumpRefused(6, 4095, 2);
        dumpRefused(6, 4000, 97);
        dumpRefused(0, 3585, FULL);
        dumpRefused(0, 4095, FULL);
    }

    private static void dumpIntoAnEmptyRow() {
        dumpDone(0, 0, 1);
        dumpDone(0, 0, 511);
        dumpDone(0, 0, FULL);
        dumpRefused(0, 0, FULL + 1);
        dumpRefused(0, 0, END);
        dumpRefused(0, 0, END + 1);
    }

    /** "the row has no room for them" */
    private static void dumpIntoTheRoomThatIsLeft() {
        dumpDone(6, 100, 505);
        dumpDone(6, 100, 506);
        dumpRefused(6, 100, 507);
        dumpRefused(6, 100, FULL);
        dumpDone(510, 100, 2);
        dumpRefused(510, 100, 3);
        dumpDone(511, 100, 1);
        dumpDone(511, 4095, 1);
        dumpRefused(511, 100, 2);
        dumpDone(1, 0, 511);
        dumpRefused(1, 0, FULL);
    }

    private static void dumpIntoAFullRow() {
        dumpRefused(FULL, 0, 1);
        dumpRefused(FULL, 4095, 1);
        dumpRefused(FULL, 0, FULL);
        dumpRefused(FULL, 0, END);
        dumpRefused(FULL, END, 1);
        dumpRefused(FULL, -1, 1);
    }

    private static void dumpOfFarNumbers() {
        for (int size : new int[] {0, 6, FULL}) {
            for (int far : FAR) {
                for (int near : NEAR) {
                    dumpRefused(size, far, near);
                    dumpRefused(size, near, far);
                }
                for (int other : FAR) {
                    dumpRefused(size, far, other);
                }
                dumpRefused(size, 4095, far);
                dumpRefused(size, END, far);
            }
        }
    }

    private static void dumpDone(int size, int place, int n) {
        Scene scene = Scene.withRow(size);
        look.changed(dumpText(place, n), scene, x -> x.dump(place, n), true, scene.state().dumped(place, n));
    }

    private static void dumpRefused(int size, int place, int n) {
        look.unchanged(dumpText(place, n), Scene.withRow(size), x -> x.dump(place, n), false);
    }

    private static String dumpText(int place, int n) {
        return "7: dump(" + place + ", " + n + ")";
    }

    /** "65535 for none", wherever "the place is 0 .. 4096". */
    private static void checkOfNone() {
        for (int place : new int[] {0, 1, 2000, 4095, END}) {
            check(place, 0, 65535);
        }
        for (int place : new int[] {-1, END + 1, MIN, MAX}) {
            check(place, 0, NONE);
        }
    }

    /** "if n is below 0", even where the place and the end are both 0 .. 4096. */
    private static void checkOfLessThanNone() {
        for (int place : new int[] {0, 1, 2000, 4095, END, END + 1}) {
            check(place, -1, NONE);
            check(place, -place - 1, NONE);
            check(place, MIN, NONE);
        }
        check(2000, -2000, NONE);
        check(END, -END, NONE);
    }

    private static void checkFromTheMemorysStart() {
        checkDone(0, 1);
        checkDone(1, 1);
        check(-1, 1, NONE);
        check(-1, 2, NONE);
        check(-6, 6, NONE);
        check(-1, END, NONE);
        check(-1, END + 1, NONE);
    }

    private static void checkToTheMemorysEnd() {
        checkDone(4095, 1);
        checkDone(4094, 2);
        checkDone(2000, 2096);
        check(4095, 2, NONE);
        check(2000, 2097, NONE);
        check(END, 1, NONE);
        check(END + 1, 1, NONE);
    }

    private static void checkOfTheWholeMemory() {
        checkDone(0, END);
        checkDone(0, 4095);
        checkDone(1, 4095);
        check(0, END + 1, NONE);
        check(1, END, NONE);
    }

    private static void checkOfFarNumbers() {
        for (int far : FAR) {
            for (int near : NEAR) {
                check(far, near, NONE);
                check(near, far, NONE);
            }
            for (int other : FAR) {
                check(far, other, NONE);
            }
            check(4095, far, NONE);
            check(END, far, NONE);
        }
    }

    private static void checkDone(int place, int n) {
        check(place, n, Scene.withRow(6).state().check(place, n));
    }

    private static void check(int place, int n, int want) {
        look.unchanged("8: check(" + place + ", " + n + ")", Scene.withRow(6), x -> x.check(place, n), want);
    }

    private static void atTheFirstAndBelow() {
        at(0, Scene.withRow(6).state().at(0));
        at(1, Scene.withRow(6).state().at(1));
        at(-1, NONE);
        at(MIN, NONE);
        at(MIN + 1, NONE);
    }

    private static void atTheLastAndBehind() {
        at(4094, Scene.withRow(6).state().at(4094));
        at(4095, Scene.withRow(6).state().at(4095));
        at(END, NONE);
        at(END + 1, NONE);
        at(MAX - 1, NONE);
        at(MAX, NONE);
    }

    private static void at(int k, int want) {
        look.unchanged("11: at(" + k + ")", Scene.withRow(6), x -> x.at(k), want);
    }
}
