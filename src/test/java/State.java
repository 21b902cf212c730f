import java.util.Arrays;

/** What the memory and the row are due to hold, told without a bank; it never changes, each step makes another. */
final class State {
    private final int[] memory;
    private final int[] row;

    State(int[] memory, int[] row) {
        this.memory = memory;
        this.row = row;
    }

    int size() {
        return row.length;
    }

    int at(int k) {
        return k < memory.length ? memory[k] : MemoryBank.NONE;
    }

    int rowAt(int k) {
        return k < row.length ? row[k] : MemoryBank.NONE;
    }

    int check(int place, int n) {
        return Checks.of(Arrays.copyOfRange(memory, place, place + n));
    }

    int rowCheck(int n) {
        return Checks.of(Arrays.copyOf(row, n));
    }

    State behind(int... bytes) {
        int[] longer = Arrays.copyOf(row, row.length + bytes.length);
        System.arraycopy(bytes, 0, longer, row.length, bytes.length);
        return new State(memory, longer);
    }

    State cutTo(int n) {
        return new State(memory, Arrays.copyOf(row, n));
    }

    State loaded(int k, int n, int place) {
        int[] changed = memory.clone();
        System.arraycopy(row, k, changed, place, n);
        return new State(changed, row);
    }

    State dumped(int place, int n) {
        return behind(Arrays.copyOfRange(memory, place, place + n));
    }
}
