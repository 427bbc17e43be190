import java.lang.reflect.Method;

/**
 * Every method with every choice among the arguments that stand at a boundary, on rows that do, too: none, one, few,
 * many and sixty numbers, and numbers at both bounds. The answers, and all that a call leaves, are compared with the
 * plain model; a change is undone, and the next call is made on a new object.
 */
public final class SweepTest {
    private static final int[] FAR = {Integer.MIN_VALUE, -100001, -100000, -99999, -1000, -999, -60, -1, 0, 1, 59, 60, 61,
        999, 1000, 99999, 100000, 100001, Integer.MAX_VALUE};

    private static final Check CHECK = new Check();

    private final int kind;
    private Pair pair;

    private SweepTest(int kind) {
        this.kind = kind;
        begin();
    }

    public static void main(String[] args) {
        for (int kind = 0; kind <= 5; kind++) {
            SweepTest sweep = new SweepTest(kind);
            sweep.noArgument();
            sweep.oneArgument();
            sweep.twoArguments();
            sweep.threeArguments();
        }
        CHECK.end();
    }

    private void begin() {
        pair = new Pair(CHECK);
        int[] lengths = {0, 1, 4, 9, 60, 3};
        for (int i = 0; i < lengths[kind]; i++) {
            both("putIn", i, i % 7, 0);
        }
        if (kind == 3) {
            both("turn", 1, 4, 0);
            both("add", 2, 5, 7);
            both("turn", 5, 8, 0);
        }
        if (kind == 5) {
            for (int i = 0; i < 100; i++) {
                both("add", 0, 0, 999);
                both("add", 2, 2, -999);
            }
            both("add", 0, 0, 99);
            both("add", 2, 2, -101);
        }
    }

    private void called(String method, int a, int b, int c) {
        String call = "kind " + kind + ": " + method + "(" + a + ", " + b + ", " + c + ")";
        int before = pair.model.count(8);
        String drawn = Rows.drawn(pair.program);
        both(method, a, b, c);
        String then = Rows.drawn(pair.program);
        if (!then.equals(drawn) || pair.model.count(8) != before) {
            pair.compareAll("behind " + call + ": ");
            both("undo", 0, 0, 0);
            pair.compareAll("behind undo of " + call + ": ");
            begin();
        }
    }

    private void both(String method, int a, int b, int c) {
        CHECK.due("kind " + kind + ": " + method + "(" + a + ", " + b + ", " + c + ")",
            answerOf(pair.program, method, a, b, c), answerOf(pair.model, method, a, b, c));
    }

    /** The arguments to try: those at the bounds of this row, and those at the bounds of all numbers. */
    private int[] edges() {
        int length = pair.model.count(0);
        int chunks = pair.model.count(1);
        int[] near = {length - 2, length - 1, length, length + 1, chunks - 1, chunks, 2, 3, 4, 5, 8, 9};
        int[] all = new int[near.length + FAR.length];
        System.arraycopy(FAR, 0, all, 0, FAR.length);
        System.arraycopy(near, 0, all, FAR.length, near.length);
        return all;
    }

    private void noArgument() {
        for (String method : new String[] {"wipe", "fault", "carryOut", "undo"}) {
            called(method, 0, 0, 0);
        }
    }

    private void oneArgument() {
        for (String method : new String[] {"takeOut", "at", "count", "put", "save", "restore"}) {
            for (int a : edges()) {
                called(method, a, 0, 0);
            }
        }
    }

    private void twoArguments() {
        for (String method : new String[] {"putIn", "set", "turn", "chunk", "sum", "unlike", "find", "costOfTurn"}) {
            for (int a : edges()) {
                for (int b : edges()) {
                    called(method, a, b, 0);
                }
            }
        }
    }

    /** Of three arguments the first two are taken from fewer: most of the far ones end in the same test of a place. */
    private void threeArguments() {
        int length = pair.model.count(0);
        int[] places = {Integer.MIN_VALUE, -1, 0, 1, length / 2, length - 1, length, Integer.MAX_VALUE};
        for (String method : new String[] {"add", "move", "rotate", "kth", "below"}) {
            for (int a : places) {
                for (int b : places) {
                    for (int c : edges()) {
                        called(method, a, b, c);
                    }
                }
            }
        }
    }

    private static int answerOf(Object object, String name, int... arguments) {
        for (Method method : object.getClass().getDeclaredMethods()) {
            if (method.getName().equals(name)) {
                Object[] given = new Object[method.getParameterCount()];
                for (int i = 0; i < given.length; i++) {
                    given[i] = arguments[i];
                }
                return answerOf(object, method, given);
            }
        }
        throw new IllegalStateException(name);
    }

    private static int answerOf(Object object, Method method, Object[] given) {
        try {
            return (int) method.invoke(object, given);
        } catch (ReflectiveOperationException thrown) {
            throw new IllegalStateException(method.getName(), thrown);
        }
    }
}
