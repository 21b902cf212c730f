/** A method for each promise of the document, with ordinary inputs; the boundary cases have tests of their own. */
public final class PromisesTest {
    private static final int NONE = MemoryBank.NONE;
    private static final Due due = new Due();

    public static void main(String[] args) {
        due.is("NONE", MemoryBank.NONE, -1);
        promise1NewObject();
        promise2Put();
        promise3Cut();
        promise4Size();
        promise5RowAt();
        promise6Load();
        promise7Dump();
        promise8Check();
        promise9RowCheck();
        promise9RowCheckOfEveryByte();
        promise10Seal();
        promise11At();
        due.end();
    }

    private static void promise1NewObject() {
        Bank x = new Bank();
        due.is("1: size()", x.size(), 0);
        due.is("1: rowAt(0)", x.rowAt(0), NONE);
        due.is("1: at(0)", x.at(0), 0);
        due.is("1: at(4095)", x.at(4095), 0);
        due.is("1: check(0, 4096)", x.check(0, 4096), Checks.of(new int[4096]));
    }

    private static void promise2Put() {
        Bank x = new Bank();
        due.is("2: put(5)", x.put(5), 1);
        due.is("2: put(200)", x.put(200), 2);
        due.is("2: put(0x12345678)", x.put(0x12345678), 3);
        due.is("2: rowAt(0)", x.rowAt(0), 5);
        due.is("2: rowAt(1)", x.rowAt(1), 200);
        due.is("2: rowAt(2)", x.rowAt(2), 0x78);
    }

    private static void promise3Cut() {
        Bank x = digits();
        due.is("3: cut(3)", x.cut(3), true);
        due.is("3: size()", x.size(), 3);
        due.is("3: rowAt(0)", x.rowAt(0), 49);
        due.is("3: rowAt(2)", x.rowAt(2), 51);
        due.is("3: rowAt(3)", x.rowAt(3), NONE);
        due.is("3: cut(4)", x.cut(4), false);
        due.is("3: size() after it", x.size(), 3);
    }

    private static void promise4Size() {
        Bank x = new Bank();
        x.put(1);
        x.put(2);
        due.is("4: size() after two puts", x.size(), 2);
        x.dump(0, 10);
        due.is("4: size() after a dump", x.size(), 12);
        x.seal();
        due.is("4: size() after a seal", x.size(), 14);
        x.load(0, 14, 0);
        due.is("4: size() after a load", x.size(), 14);
        x.cut(1);
        due.is("4: size() after a cut", x.size(), 1);
    }

    private static void promise5RowAt() {
        Bank x = digits();
        for (int k = 0; k < 9; k++) {
            due.is("5: rowAt(" + k + ")", x.rowAt(k), 49 + k);
        }
        due.is("5: rowAt(9)", x.rowAt(9), NONE);
    }

    private static void promise6Load() {
        Bank x = digits();
        due.is("6: load(2, 3, 100)", x.load(2, 3, 100), true);
        due.is("6: at(99)", x.at(99), 0);
        due.is("6: at(100)", x.at(100), 51);
        due.is("6: at(101)", x.at(101), 52);
        due.is("6: at(102)", x.at(102), 53);
        due.is("6: at(103)", x.at(103), 0);
        due.is("6: rowAt(2) after it", x.rowAt(2), 51);
        due.is("6: load(5, 5, 100)", x.load(5, 5, 100), false);
        due.is("6: at(100) after it", x.at(100), 51);
    }

    private static void promise7Dump() {
        Bank x = digits();
        x.load(0, 9, 200);
        x.cut(1);
        due.is("7: dump(202, 3)", x.dump(202, 3), true);
        due.is("7: size()", x.size(), 4);
        due.is("7: rowAt(0)", x.rowAt(0), 49);
        due.is("7: rowAt(1)", x.rowAt(1), 51);
        due.is("7: rowAt(3)", x.rowAt(3), 53);
        due.is("7: at(202) after it", x.at(202), 51);
        due.is("7: dump(202, 600)", x.dump(202, 600), false);
        due.is("7: size() after it", x.size(), 4);
    }

    private static void promise8Check() {
        Bank x = digits();
        x.load(0, 9, 100);
        due.is("8: check(100, 9)", x.check(100, 9), 10673);
        due.is("8: check(100, 8)", x.check(100, 8), x.rowCheck(8));
        due.is("8: check(4095, 1)", x.check(4095, 1), 57840);
        due.is("8: check(4000, 100)", x.check(4000, 100), NONE);
        due.is("8: size() after checks", x.size(), 9);
        due.is("8: at(100) after checks", x.at(100), 49);
    }

    private static void promise9RowCheck() {
        Bank x = digits();
        due.is("9: rowCheck(9)", x.rowCheck(9), 10673);
        due.is("9: rowCheck(1)", x.rowCheck(1), Checks.of(new int[] {49}));
        due.is("9: rowCheck(10)", x.rowCheck(10), NONE);
        due.is("9: rowCheck(9) again", x.rowCheck(9), 10673);
    }

    private static void promise9RowCheckOfEveryByte() {
        for (int first = 0; first < 256; first++) {
            Bank x = new Bank();
            x.put(first);
            due.is("9: rowCheck(1) of " + first, x.rowCheck(1), Checks.of(new int[] {first}));
            for (int second = 0; second < 256; second += 3) {
                x.cut(1);
                x.put(second);
                due.is("9: rowCheck(2) of " + first + ", " + second,
                    x.rowCheck(2), Checks.of(new int[] {first, second}));
            }
        }
    }

    private static void promise10Seal() {
        Bank x = digits();
        due.is("10: seal()", x.seal(), true);
        due.is("10: size()", x.size(), 11);
        due.is("10: rowAt(8)", x.rowAt(8), 57);
        due.is("10: rowAt(9)", x.rowAt(9), 41);
        due.is("10: rowAt(10)", x.rowAt(10), 177);
        due.is("10: rowCheck(11)", x.rowCheck(11), 0);
    }

    private static void promise11At() {
        Bank x = digits();
        for (int place = 0; place < 4000; place += 90) {
            x.load(0, 9, place);
        }
        for (int place = 0; place < 4000; place += 90) {
            due.is("11: at(" + (place + 4) + ")", x.at(place + 4), 53);
            due.is("11: at(" + (place + 9) + ")", x.at(place + 9), 0);
        }
        due.is("11: at(5000)", x.at(5000), NONE);
    }

    private static Bank digits() {
        Bank x = new Bank();
        for (int b = '1'; b <= '9'; b++) {
            x.put(b);
        }
        return x;
    }
}
