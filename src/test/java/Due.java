/** Counts and prints the answers that are not the ones that are due. */
final class Due {
    private int told = 0;
    private int wrong = 0;

    void is(String call, Object got, Object want) {
        told++;
        if (!got.equals(want)) {
            wrong++;
            System.out.println(call + " answered " + got + ", due is " + want);
        }
    }

    void end() {
        System.out.println(told + " answers, " + wrong + " not as due");
        if (wrong != 0) {
            System.exit(1);
        }
    }
}
