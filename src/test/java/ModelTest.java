import java.util.ArrayList;
import java.util.Arrays;
import java.util.List;
import java.util.Random;

/** Long runs of chosen calls, beside a plain model that is written from the document in other terms. */
public final class ModelTest {
    private static final int RUNS = 1000;
    /** The other 66 of the document's 512 calls are for the look at the state. */
    private static final int CALLS = 446;
    private static final int[] EDGES = {
        Integer.MIN_VALUE, Integer.MIN_VALUE + 1, -4096, -2, -1, 0, 1, 2, 255, 256, 509, 510, 511, 512, 513,
        3584, 4094, 4095, 4096, 4097, 65536, Integer.MAX_VALUE - 4095, Integer.MAX_VALUE - 1, Integer.MAX_VALUE
    };

    private final Due due;
    private final Random random;
    private final Bank bank = new Bank();
    private final int[] memory = new int[4096];
    private final List<Integer> row = new ArrayList<>();

    private ModelTest(Due due, long seed) {
        this.due = due;
        this.random = new Random(seed);
    }

    public static void main(String[] args) {
        Due due = new Due();
        for (int run = 0; run < RUNS; run++) {
            ModelTest test = new ModelTest(due, run);
            for (int i = 0; i < CALLS; i++) {
                test.call("run " + run + ", call " + i + ": ");
            }
            test.compareState("run " + run + " at its end: ");
        }
        due.end();
    }

    private void call(String where) {
        int a = number();
        int b = number();
        int c = number();
        switch (random.nextInt(10)) {
            case 0: due.is(where + "cut(" + a + ")", bank.cut(a), cut(a)); break;
            case 1: due.is(where + "size()", bank.size(), row.size()); break;
            case 2: due.is(where + "rowAt(" + a + ")", bank.rowAt(a), has(a, row.size()) ? row.get(a) : -1); break;
            case 3: due.is(where + "load(" + a + ", " + b + ", " + c + ")", bank.load(a, b, c), load(a, b, c)); break;
            case 4: due.is(where + "dump(" + a + ", " + b + ")", bank.dump(a, b), dump(a, b)); break;
            case 5: due.is(where + "check(" + a + ", " + b + ")", bank.check(a, b), check(a, b)); break;
            case 6: due.is(where + "rowCheck(" + a + ")", bank.rowCheck(a), rowCheck(a)); break;
            case 7: due.is(where + "seal()", bank.seal(), seal()); break;
            case 8: due.is(where + "at(" + a + ")", bank.at(a), has(a, 4096) ? memory[a] : -1); break;
            default: int d = random.nextInt(); due.is(where + "put(" + d + ")", bank.put(d), put(d)); break;
        }
    }

    private void compareState(String where) {
        for (int place = 0; place < 4096; place += 64) {
            due.is(where + "check(" + place + ", 64)", bank.check(place, 64), check(place, 64));
        }
        due.is(where + "size()", bank.size(), row.size());
        due.is(where + "rowCheck(" + row.size() + ")", bank.rowCheck(row.size()), checkOfRow(row.size()));
    }

    /** Near the row's own size as often as at the document's edges: there the calls turn from true to false. */
    private int number() {
        switch (random.nextInt(5)) {
            case 0: return EDGES[random.nextInt(EDGES.length)];
            case 1: return row.size() + random.nextInt(5) - 2;
            case 2: return 512 - row.size() + random.nextInt(5) - 2;
            case 3: return random.nextInt(4200);
            default: return random.nextInt(40);
        }
    }

    private static boolean has(long k, long length) {
        return 0 <= k && k < length;
    }

    /** Of one byte or more: the first and the last are there. */
    private static boolean hasAll(long start, long n, long length) {
        return n >= 1 && has(start, length) && has(start + n - 1, length);
    }

    private int put(int b) {
        if (row.size() == 512) {
            return -1;
        }
        row.add(Math.floorMod(b, 256));
        return row.size();
    }

    private boolean cut(int n) {
        if (n < 0 || row.size() < n) {
            return false;
        }
        row.subList(n, row.size()).clear();
        return true;
    }

    private boolean load(int k, int n, int place) {
        if (!hasAll(k, n, row.size()) || !hasAll(place, n, 4096)) {
            return false;
        }
        for (int i = 0; i < n; i++) {
            memory[place + i] = row.get(k + i);
        }
        return true;
    }

    private boolean dump(int place, int n) {
        if (!hasAll(place, n, 4096) || row.size() + (long) n > 512) {
            return false;
        }
        for (int i = 0; i < n; i++) {
            row.add(memory[place + i]);
        }
        return true;
    }

    private int check(int place, int n) {
        if (n == 0) {
            return has(place, 4097) ? 65535 : -1;
        }
        return hasAll(place, n, 4096) ? Checks.of(Arrays.copyOfRange(memory, place, place + n)) : -1;
    }

    private int rowCheck(int n) {
        return n < 0 || row.size() < n ? -1 : checkOfRow(n);
    }

    private boolean seal() {
        if (row.size() > 510) {
            return false;
        }
        int c = checkOfRow(row.size());
        row.add(c / 256);
        row.add(c % 256);
        return true;
    }

    private int checkOfRow(int n) {
        int[] first = new int[n];
        for (int i = 0; i < n; i++) {
            first[i] = row.get(i);
        }
        return Checks.of(first);
    }
}
