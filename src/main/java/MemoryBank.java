/** A memory that is loaded, dumped and checked from afar, by way of a row of bytes with a check behind it. */
public final class MemoryBank {
    public static final int NONE = -1;

    private static final int MEMORY_SIZE = 4096;
    private static final int ROW_ROOM = 512;
    private static final int SEAL_SIZE = 2;

    private static final int CHECK_START = 65535;
    private static final int CHECK_LIMIT = 65536;
    private static final int CHECK_MASK = 69665;

    private final int[] memory;
    private final int[] row;
    private int rowSize;

    public MemoryBank() {
        memory = new int[MEMORY_SIZE];
        row = new int[ROW_ROOM];
        rowSize = 0;
    }

    public int put(int b) {
        if (!hasRoom(1)) {
            return NONE;
        }
        append(b);
        return rowSize;
    }

    public boolean cut(int n) {
        if (!isPart(0, n, rowSize)) {
            return false;
        }
        rowSize = n;
        return true;
    }

    public int size() {
        return rowSize;
    }

    public int rowAt(int k) {
        return isPart(k, 1, rowSize) ? row[k] : NONE;
    }

    public boolean load(int k, int n, int place) {
        if (n < 1 || !isPart(k, n, rowSize) || !isPart(place, n, MEMORY_SIZE)) {
            return false;
        }
        System.arraycopy(row, k, memory, place, n);
        return true;
    }

    public boolean dump(int place, int n) {
        if (n < 1 || !isPart(place, n, MEMORY_SIZE) || !hasRoom(n)) {
            return false;
        }
        System.arraycopy(memory, place, row, rowSize, n);
        rowSize += n;
        return true;
    }

    public int check(int place, int n) {
        return isPart(place, n, MEMORY_SIZE) ? checkOf(memory, place, n) : NONE;
    }

    public int rowCheck(int n) {
        return isPart(0, n, rowSize) ? checkOf(row, 0, n) : NONE;
    }

    public boolean seal() {
        if (!hasRoom(SEAL_SIZE)) {
            return false;
        }
        int c = checkOf(row, 0, rowSize);
        append(c >> 8);
        append(c);
        return true;
    }

    public int at(int k) {
        return isPart(k, 1, MEMORY_SIZE) ? memory[k] : NONE;
    }

    /** Subtracts where a sum of start and count could wrap around and seem small. */
    private static boolean isPart(int start, int count, int length) {
        return start >= 0 && count >= 0 && count <= length - start;
    }

    private boolean hasRoom(int n) {
        return n <= ROW_ROOM - rowSize;
    }

    /** Only behind hasRoom: the index is not looked at again here. */
    private void append(int b) {
        row[rowSize] = b & 255;
        rowSize++;
    }

    /** Only behind isPart: the indices are not looked at again here. */
    private static int checkOf(int[] bytes, int start, int count) {
        int c = CHECK_START;
        for (int i = 0; i < count; i++) {
            c = checkWith(c, bytes[start + i]);
        }
        return c;
    }

    private static int checkWith(int before, int b) {
        int c = before ^ (b * 256);
        for (int i = 0; i < 8; i++) {
            c = c * 2;
            if (c >= CHECK_LIMIT) {
                c = c ^ CHECK_MASK;
            }
        }
        return c;
    }
}
