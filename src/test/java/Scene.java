/**
 * A state to begin from, in which a change of any byte can be seen: no byte of the memory is 0, the row begins
 * with bytes that the memory has nowhere, and behind the row there are bytes that have been cut off.
 */
final class Scene {
    private static final int MEMORY = 4096;
    private static final int FULL = 512;
    /** A prime, so that a place that is wrong by a round number has another byte. */
    private static final int PERIOD = 61;
    private static final int WHOLE_PERIODS = 488;
    private static final int OWN_BYTES = 37;
    private static final int DUMPED_FROM = 1000;

    private final int rowSize;
    private final boolean fresh;

    private Scene(int rowSize, boolean fresh) {
        this.rowSize = rowSize;
        this.fresh = fresh;
    }

    static Scene newObject() {
        return new Scene(0, true);
    }

    static Scene withRow(int size) {
        return new Scene(size, false);
    }

    State state() {
        int[] memory = new int[MEMORY];
        int[] row = new int[rowSize];
        for (int k = 0; k < MEMORY && !fresh; k++) {
            memory[k] = memoryByte(k);
        }
        for (int k = 0; k < rowSize; k++) {
            row[k] = k < OWN_BYTES ? ownByte(k) : memoryByte(DUMPED_FROM + k - OWN_BYTES);
        }
        return new State(memory, row);
    }

    /** Another bank each time: to look at every byte takes more calls than one object has. */
    Bank bank() {
        Bank x = new Bank();
        if (!fresh) {
            fillRow(x);
            for (int place = 0; place < MEMORY; place += WHOLE_PERIODS) {
                x.load(0, Math.min(WHOLE_PERIODS, MEMORY - place), place);
            }
            x.cut(0);
            startRow(x);
        }
        return x;
    }

    private static void fillRow(Bank x) {
        for (int k = 0; k < PERIOD; k++) {
            x.put(memoryByte(k));
        }
        for (int size = PERIOD; size < WHOLE_PERIODS; size *= 2) {
            x.load(0, size, 0);
            x.dump(0, size);
        }
        x.dump(0, FULL - WHOLE_PERIODS);
    }

    private void startRow(Bank x) {
        for (int k = 0; k < Math.min(OWN_BYTES, rowSize); k++) {
            x.put(ownByte(k));
        }
        if (rowSize > OWN_BYTES) {
            x.dump(DUMPED_FROM, rowSize - OWN_BYTES);
        }
    }

    private static int memoryByte(int k) {
        return k % PERIOD * 4 + 1;
    }

    private static int ownByte(int k) {
        return 255 - k * 4;
    }
}
