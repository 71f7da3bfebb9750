/** Counts what is as due and prints what is not. */
final class Check {
    static final int INVALID = -100001;
    static final int ILLEGAL = -100002;
    static final int FULL = -100003;
    static final int NONE = -100009;

    static int passed = 0;
    static int failed = 0;

    private Check() {
    }

    static void due(String what, long got, long want) {
        if (got == want) {
            passed++;
        } else {
            failed++;
            System.out.println(what + ": got " + got + ", due is " + want);
        }
    }

    static void holds(String what, boolean is) {
        if (is) {
            passed++;
        } else {
            failed++;
            System.out.println(what + ": does not hold");
        }
    }
}
