/** A MemoryBank for at most 512 calls: the document promises nothing behind them, so a test that goes on is wrong. */
final class Bank {
    private static final int MOST_CALLS = 512;

    private final MemoryBank bank = new MemoryBank();
    private int calls = 0;

    int put(int b) {
        return counted().put(b);
    }

    boolean cut(int n) {
        return counted().cut(n);
    }

    int size() {
        return counted().size();
    }

    int rowAt(int k) {
        return counted().rowAt(k);
    }

    boolean load(int k, int n, int place) {
        return counted().load(k, n, place);
    }

    boolean dump(int place, int n) {
        return counted().dump(place, n);
    }

    int check(int place, int n) {
        return counted().check(place, n);
    }

    int rowCheck(int n) {
        return counted().rowCheck(n);
    }

    boolean seal() {
        return counted().seal();
    }

    int at(int k) {
        return counted().at(k);
    }

    private MemoryBank counted() {
        calls++;
        if (calls > MOST_CALLS) {
            throw new IllegalStateException("a test gives one object more than 512 calls");
        }
        return bank;
    }
}
