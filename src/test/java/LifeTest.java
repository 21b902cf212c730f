import com.sun.management.ThreadMXBean;
import java.lang.management.ManagementFactory;

/** What the document says of an object's life: it answers to 512 calls, and all its memory is made once. */
public final class LifeTest {
    private static final int CALLS = 512;
    private static final int ROUNDS = 5;

    private static final Due due = new Due();

    public static void main(String[] args) {
        everyPutOfTheLifeIsDone();
        theLastCallIsAnsweredAsTheFirst();
        callsMakeNoMemory();
        due.end();
    }

    private static void everyPutOfTheLifeIsDone() {
        Bank x = new Bank();
        for (int i = 1; i <= CALLS; i++) {
            due.is("call " + i + ", put(" + i + ")", x.put(i), i);
        }
    }

    private static void theLastCallIsAnsweredAsTheFirst() {
        due.is("call 512, at(4095)", nearItsEnd().at(4095), 7);
        due.is("call 512, check(4095, 1)", nearItsEnd().check(4095, 1), Checks.of(new int[] {7}));
        due.is("call 512, rowCheck(1)", nearItsEnd().rowCheck(1), Checks.of(new int[] {7}));
        due.is("call 512, rowAt(0)", nearItsEnd().rowAt(0), 7);
        due.is("call 512, size()", nearItsEnd().size(), 1);
        due.is("call 512, seal()", nearItsEnd().seal(), true);
        due.is("call 512, cut(1)", nearItsEnd().cut(1), true);
        due.is("call 512, load(0, 1, 0)", nearItsEnd().load(0, 1, 0), true);
        due.is("call 512, dump(3585, 511)", nearItsEnd().dump(3585, 511), true);
    }

    /** With 511 calls behind it (2, 254 times 2, and 1): 7 is in the row and in the memory's last byte. */
    private static Bank nearItsEnd() {
        Bank x = new Bank();
        x.put(7);
        x.load(0, 1, 4095);
        for (int i = 0; i < 254; i++) {
            x.dump(0, 511);
            x.cut(1);
        }
        x.size();
        return x;
    }

    /** The least of some rounds: what Java itself may make beside a round falls on one of them, not on all. */
    private static void callsMakeNoMemory() {
        ThreadMXBean threads = (ThreadMXBean) ManagementFactory.getThreadMXBean();
        long least = Long.MAX_VALUE;
        for (int round = 0; round < ROUNDS; round++) {
            MemoryBank x = new MemoryBank();
            long before = threads.getCurrentThreadAllocatedBytes();
            callEverything(x);
            least = Math.min(least, threads.getCurrentThreadAllocatedBytes() - before);
        }
        due.is("bytes made by calls", least, 0L);
    }

    /** Thirty times 17 calls. */
    private static void callEverything(MemoryBank x) {
        for (int i = 0; i < 30; i++) {
            x.put(i);
            x.dump(0, 400);
            x.seal();
            x.load(0, 300, 3000);
            x.check(0, 4096);
            x.rowCheck(300);
            x.rowAt(i);
            x.at(i);
            x.cut(x.size() / 2);
            x.load(0, 0, 0);
            x.dump(-1, 1);
            x.check(-1, 1);
            x.rowCheck(-1);
            x.rowAt(-1);
            x.at(-1);
            x.cut(-1);
        }
    }
}
