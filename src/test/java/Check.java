/** Counts and prints the answers that are not the ones that are due. */
final class Check {
    private static final int MOST_PRINTED = 50;

    private int wrong = 0;

    void due(String call, long got, long want) {
        if (got == want) {
            return;
        }
        wrong++;
        if (wrong <= MOST_PRINTED) {
            System.out.println(call + " answered " + got + ", due is " + want);
        }
    }

    void same(String what, String got, String want) {
        if (got.equals(want)) {
            return;
        }
        wrong++;
        if (wrong <= MOST_PRINTED) {
            System.out.println(what + "\n  is  " + got + "\n  due " + want);
        }
    }

    void holds(String what, boolean so) {
        due(what + " (1: it holds)", so ? 1 : 0, 1);
    }

    int wrong() {
        return wrong;
    }

    void end() {
        if (wrong > 0) {
            System.out.println(wrong + " wrong");
            System.exit(1);
        }
    }
}
