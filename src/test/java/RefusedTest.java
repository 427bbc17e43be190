import java.util.function.Supplier;
import java.util.function.ToIntFunction;

/**
 * "A method that fails returns one of the error codes; it names its errors in the order in which they are checked, and
 * the first one that applies is returned. A call that returns an error changes nothing." Each refused call is made on a
 * new object, and all that this object holds is compared with one on which the call was not made.
 */
public final class RefusedTest {
    private static final int NO_SUCH = -1, BAD_VALUE = -2, BAD_TEXT = -3, TOO_MANY = -4, NOT_POSSIBLE = -5, NONE = -6;
    private static final int MIN = Integer.MIN_VALUE, MAX = Integer.MAX_VALUE;

    private static final Check CHECK = new Check();

    private static Supplier<RootChunks> object;

    public static void main(String[] args) {
        object = RefusedTest::nine;
        placesAndNumbers();
        turns();
        adds();
        moves();
        rotations();
        whatThereIs();
        questions();
        placesAtTheirFarEnds();
        textsAndSlots();
        answersChangeNothing();
        object = RootChunks::new;
        nothingOfNone();
        object = RefusedTest::full;
        noMoreThanThereIsRoomFor();
        object = RefusedTest::atTheBounds;
        noNumberOutOfRange();
        CHECK.end();
    }

    /** Nine numbers where turns and sums wait, with a history, one saved state, and a text that has a fault. */
    private static RootChunks nine() {
        RootChunks x = Rows.of(9);
        x.save(0);
        x.turn(1, 4);
        x.add(2, 5, 7);
        x.turn(5, 8);
        Rows.write(x, "put0=5;cut");
        CHECK.same("nine", Rows.drawn(x), "0 4 | 10 9 8 +7 | 8 7 6 t | 12 t +7 : 22");
        return x;
    }

    private static RootChunks full() {
        RootChunks x = Rows.of(60);
        x.save(1);
        x.turn(3, 40);
        Rows.write(x, "cut0;".repeat(15) + "put0=");
        return x;
    }

    /** 99999 and -99999 beside 0, by sums that wait. */
    private static RootChunks atTheBounds() {
        RootChunks x = Rows.with(0, 0, 0);
        for (int i = 0; i < 100; i++) {
            x.add(0, 0, 999);
            x.add(2, 2, -999);
        }
        x.add(0, 0, 99);
        x.add(2, 2, -99);
        CHECK.same("at the bounds", Rows.drawn(x), "99999 +99999 | 0 | -99999 -99999 : 3");
        return x;
    }

    private static void refused(String call, ToIntFunction<RootChunks> made, int error) {
        onlyAnswers(call, made, error);
    }

    private static void onlyAnswers(String call, ToIntFunction<RootChunks> made, int want) {
        RootChunks x = object.get();
        CHECK.due(call, made.applyAsInt(x), want);
        CHECK.same(call + " changes nothing", Rows.emptied(x), Rows.emptied(object.get()));
    }

    private static void placesAndNumbers() {
        refused("putIn below the first place", x -> x.putIn(-1, 0), NO_SUCH);
        refused("putIn behind the length", x -> x.putIn(10, 0), NO_SUCH);
        refused("putIn: value too small", x -> x.putIn(0, -1000), BAD_VALUE);
        refused("putIn: value too large", x -> x.putIn(9, 1000), BAD_VALUE);
        refused("putIn: the place is checked ahead of the value", x -> x.putIn(10, 1000), NO_SUCH);
        refused("putIn: the place below is, too", x -> x.putIn(-1, -1000), NO_SUCH);
        refused("takeOut below the first place", x -> x.takeOut(-1), NO_SUCH);
        refused("takeOut at the length", x -> x.takeOut(9), NO_SUCH);
        refused("set below the first place", x -> x.set(-1, 0), NO_SUCH);
        refused("set at the length", x -> x.set(9, 0), NO_SUCH);
        refused("set: value too small", x -> x.set(2, -1000), BAD_VALUE);
        refused("set: value too large", x -> x.set(8, 1000), BAD_VALUE);
        refused("set: the place is checked ahead of the value", x -> x.set(9, 1000), NO_SUCH);
        refused("set: the place below is, too", x -> x.set(-1, -1000), NO_SUCH);
    }

    private static void turns() {
        refused("turn from below the row", x -> x.turn(-1, 3), NO_SUCH);
        refused("turn from the length on", x -> x.turn(9, 9), NO_SUCH);
        refused("turn to the length", x -> x.turn(3, 9), NO_SUCH);
        refused("turn to below from", x -> x.turn(3, 2), BAD_VALUE);
        refused("turn from the last to the first", x -> x.turn(8, 0), BAD_VALUE);
        refused("turn: places are checked ahead of their order", x -> x.turn(9, 0), NO_SUCH);
        refused("turn: the other place is, too", x -> x.turn(0, -1), NO_SUCH);
        refused("costOfTurn from below the row", x -> x.costOfTurn(-1, 3), NO_SUCH);
        refused("costOfTurn from the length on", x -> x.costOfTurn(9, 9), NO_SUCH);
        refused("costOfTurn to the length", x -> x.costOfTurn(3, 9), NO_SUCH);
        refused("costOfTurn to below from", x -> x.costOfTurn(3, 2), BAD_VALUE);
        refused("costOfTurn: places are checked ahead of their order", x -> x.costOfTurn(9, 0), NO_SUCH);
        refused("costOfTurn: the other place is, too", x -> x.costOfTurn(0, -1), NO_SUCH);
    }

    private static void adds() {
        refused("add from below the row", x -> x.add(-1, 3, 1), NO_SUCH);
        refused("add from the length on", x -> x.add(9, 9, 1), NO_SUCH);
        refused("add to the length", x -> x.add(3, 9, 1), NO_SUCH);
        refused("add to below from", x -> x.add(3, 2, 1), BAD_VALUE);
        refused("add too little", x -> x.add(3, 4, -1000), BAD_VALUE);
        refused("add too much", x -> x.add(3, 4, 1000), BAD_VALUE);
        refused("add: places are checked ahead of their order", x -> x.add(9, 0, 1), NO_SUCH);
        refused("add: places are checked ahead of the number", x -> x.add(0, 9, 1000), NO_SUCH);
        refused("add: the other place is, too", x -> x.add(0, -1, 1000), NO_SUCH);
    }

    private static void moves() {
        refused("move from below the row", x -> x.move(-1, 3, 0), NO_SUCH);
        refused("move from the length on", x -> x.move(9, 9, 0), NO_SUCH);
        refused("move to the length", x -> x.move(3, 9, 0), NO_SUCH);
        refused("move to below from", x -> x.move(3, 2, 0), BAD_VALUE);
        refused("move below the first place", x -> x.move(3, 4, -1), BAD_VALUE);
        refused("move behind the row without the span", x -> x.move(3, 4, 8), BAD_VALUE);
        refused("move one behind the row without it", x -> x.move(8, 8, 9), BAD_VALUE);
        refused("move the whole row anywhere but to 0", x -> x.move(0, 8, 1), BAD_VALUE);
        refused("move: places are checked ahead of their order", x -> x.move(9, 0, 0), NO_SUCH);
        refused("move: places are checked ahead of the place", x -> x.move(0, 9, -1), NO_SUCH);
        refused("move: the other place is, too", x -> x.move(0, -1, 99), NO_SUCH);
    }

    private static void rotations() {
        refused("rotate from below the row", x -> x.rotate(-1, 3, 1), NO_SUCH);
        refused("rotate from the length on", x -> x.rotate(9, 9, 1), NO_SUCH);
        refused("rotate to the length", x -> x.rotate(3, 9, 1), NO_SUCH);
        refused("rotate to below from", x -> x.rotate(3, 2, 1), BAD_VALUE);
        refused("rotate too far back", x -> x.rotate(3, 4, -1000), BAD_VALUE);
        refused("rotate too far", x -> x.rotate(3, 4, 1000), BAD_VALUE);
        refused("rotate: places are checked ahead of their order", x -> x.rotate(9, 0, 1), NO_SUCH);
        refused("rotate: places are checked ahead of the number", x -> x.rotate(0, 9, 1000), NO_SUCH);
        refused("rotate: the other place is, too", x -> x.rotate(0, -1, -1000), NO_SUCH);
    }

    private static void whatThereIs() {
        refused("at below the first place", x -> x.at(-1), NO_SUCH);
        refused("at the length", x -> x.at(9), NO_SUCH);
        refused("chunk below the first", x -> x.chunk(-1, 0), NO_SUCH);
        refused("chunk as many as there are", x -> x.chunk(4, 0), NO_SUCH);
        refused("chunk: what too small", x -> x.chunk(0, -1), BAD_VALUE);
        refused("chunk: what too large", x -> x.chunk(3, 5), BAD_VALUE);
        refused("chunk: the chunk is checked ahead of what", x -> x.chunk(4, 5), NO_SUCH);
        refused("chunk: the chunk below is, too", x -> x.chunk(-1, -1), NO_SUCH);
        refused("count: what too small", x -> x.count(-1), BAD_VALUE);
        refused("count: what too large", x -> x.count(9), BAD_VALUE);
    }

    private static void questions() {
        refused("kth from below the row", x -> x.kth(-1, 3, 0), NO_SUCH);
        refused("kth from the length on", x -> x.kth(9, 9, 0), NO_SUCH);
        refused("kth to the length", x -> x.kth(3, 9, 0), NO_SUCH);
        refused("kth to below from", x -> x.kth(3, 2, 0), BAD_VALUE);
        refused("kth: k below 0", x -> x.kth(3, 4, -1), BAD_VALUE);
        refused("kth: k is the span's length", x -> x.kth(3, 4, 2), BAD_VALUE);
        refused("kth: places are checked ahead of k", x -> x.kth(0, 9, -1), NO_SUCH);
        refused("kth: the other place is, too", x -> x.kth(2, -1, 99), NO_SUCH);
        refused("below from below the row", x -> x.below(-1, 3, 0), NO_SUCH);
        refused("below from the length on", x -> x.below(9, 9, 0), NO_SUCH);
        refused("below to the length", x -> x.below(3, 9, 0), NO_SUCH);
        refused("below to below from", x -> x.below(3, 2, 0), BAD_VALUE);
        refused("below: value too small", x -> x.below(3, 4, -100000), BAD_VALUE);
        refused("below: value too large", x -> x.below(3, 4, 100000), BAD_VALUE);
        refused("below: places are checked ahead of the value", x -> x.below(0, 9, 100000), NO_SUCH);
        refused("below: the other place is, too", x -> x.below(2, -1, -100000), NO_SUCH);
        refused("sum from below the row", x -> x.sum(-1, 3), NO_SUCH);
        refused("sum from the length on", x -> x.sum(9, 9), NO_SUCH);
        refused("sum to the length", x -> x.sum(3, 9), NO_SUCH);
        refused("sum to below from", x -> x.sum(3, 2), BAD_VALUE);
        refused("sum: places are checked ahead of their order", x -> x.sum(9, 0), NO_SUCH);
        refused("sum: the other place is, too", x -> x.sum(0, -1), NO_SUCH);
        refused("unlike from below the row", x -> x.unlike(-1, 3), NO_SUCH);
        refused("unlike from the length on", x -> x.unlike(9, 9), NO_SUCH);
        refused("unlike to the length", x -> x.unlike(3, 9), NO_SUCH);
        refused("unlike to below from", x -> x.unlike(3, 2), BAD_VALUE);
        refused("unlike: places are checked ahead of their order", x -> x.unlike(9, 0), NO_SUCH);
        refused("unlike: the other place is, too", x -> x.unlike(0, -1), NO_SUCH);
        refused("find from below the row", x -> x.find(-1, 0), NO_SUCH);
        refused("find from the length on", x -> x.find(9, 0), NO_SUCH);
        refused("find: value too small", x -> x.find(0, -100000), BAD_VALUE);
        refused("find: value too large", x -> x.find(8, 100000), BAD_VALUE);
        refused("find: the place is checked ahead of the value", x -> x.find(9, 100000), NO_SUCH);
        refused("find: the place below is, too", x -> x.find(-1, -100000), NO_SUCH);
    }

    private static void placesAtTheirFarEnds() {
        for (int far : new int[] {MIN, MIN + 1, MAX - 1, MAX}) {
            refused("putIn at " + far, x -> x.putIn(far, far), NO_SUCH);
            refused("putIn of " + far, x -> x.putIn(0, far), BAD_VALUE);
            refused("takeOut at " + far, x -> x.takeOut(far), NO_SUCH);
            refused("set at " + far, x -> x.set(far, far), NO_SUCH);
            refused("set to " + far, x -> x.set(0, far), BAD_VALUE);
            refused("turn from " + far, x -> x.turn(far, 0), NO_SUCH);
            refused("turn to " + far, x -> x.turn(0, far), NO_SUCH);
            refused("add from " + far, x -> x.add(far, far, far), NO_SUCH);
            refused("add of " + far, x -> x.add(0, 8, far), BAD_VALUE);
            refused("move to " + far, x -> x.move(0, far, far), NO_SUCH);
            refused("move ahead of " + far, x -> x.move(0, 0, far), BAD_VALUE);
            refused("rotate from " + far, x -> x.rotate(far, 8, far), NO_SUCH);
            refused("rotate by " + far, x -> x.rotate(0, 0, far), BAD_VALUE);
            refused("at " + far, x -> x.at(far), NO_SUCH);
            refused("chunk " + far, x -> x.chunk(far, far), NO_SUCH);
            refused("chunk 0 " + far, x -> x.chunk(0, far), BAD_VALUE);
            refused("count " + far, x -> x.count(far), BAD_VALUE);
            refused("kth from " + far, x -> x.kth(far, 8, far), NO_SUCH);
            refused("kth " + far, x -> x.kth(0, 8, far), BAD_VALUE);
            refused("below to " + far, x -> x.below(0, far, far), NO_SUCH);
            refused("below " + far, x -> x.below(0, 8, far), BAD_VALUE);
            refused("sum from " + far, x -> x.sum(far, far), NO_SUCH);
            refused("unlike to " + far, x -> x.unlike(8, far), NO_SUCH);
            refused("find from " + far, x -> x.find(far, far), NO_SUCH);
            refused("find " + far, x -> x.find(8, far), BAD_VALUE);
            refused("costOfTurn from " + far, x -> x.costOfTurn(far, far), NO_SUCH);
            refused("save " + far, x -> x.save(far), BAD_VALUE);
            refused("restore " + far, x -> x.restore(far), BAD_VALUE);
        }
    }

    private static void textsAndSlots() {
        refused("put no character", x -> x.put(0), BAD_VALUE);
        refused("put code 32", x -> x.put(32), BAD_VALUE);
        refused("put code 127", x -> x.put(127), BAD_VALUE);
        refused("put code 1", x -> x.put(1), BAD_VALUE);
        refused("put code 255", x -> x.put(255), BAD_VALUE);
        refused("put code 32 ahead of right ones", x -> x.put(Rows.packed(" ut0=1")), BAD_VALUE);
        refused("put code 127 between right ones", x -> x.put(Rows.packed("put" + (char) 127 + "=1")), BAD_VALUE);
        refused("put the lowest 8 bits 0", x -> x.put('A' << 8), BAD_VALUE);
        refused("put 8 bits of 0 between characters", x -> x.put('A' << 16 | 'B'), BAD_VALUE);
        refused("put the highest bit above 8 bits of 0", x -> x.put(1L << 63 | Rows.packed("abcdef")), BAD_VALUE);
        refused("put the next bit above 8 bits of 0", x -> x.put(1L << 16 | 'B'), BAD_VALUE);
        refused("put Long.MIN_VALUE", x -> x.put(Long.MIN_VALUE), BAD_VALUE);
        refused("put Long.MAX_VALUE", x -> x.put(Long.MAX_VALUE), BAD_VALUE);
        refused("put -1", x -> x.put(-1), BAD_VALUE);
        refused("carryOut with a fault", x -> x.carryOut(), BAD_TEXT);
        refused("save in slot -1", x -> x.save(-1), BAD_VALUE);
        refused("save in slot 2", x -> x.save(2), BAD_VALUE);
        refused("restore slot -1", x -> x.restore(-1), BAD_VALUE);
        refused("restore slot 2", x -> x.restore(2), BAD_VALUE);
        refused("restore what was not saved", x -> x.restore(1), NOT_POSSIBLE);
    }

    /** "Questions; nothing changes", and what there is: what is asked is nine(). */
    private static void answersChangeNothing() {
        onlyAnswers("at", x -> x.at(2), 100010);
        onlyAnswers("chunk", x -> x.chunk(2, 4), 7);
        onlyAnswers("count", x -> x.count(0), 9);
        onlyAnswers("kth", x -> x.kth(0, 8, 8), 100012);
        onlyAnswers("below", x -> x.below(0, 8, 8), 4);
        onlyAnswers("sum", x -> x.sum(0, 8), 10000064);
        onlyAnswers("unlike", x -> x.unlike(0, 8), 8);
        onlyAnswers("find", x -> x.find(0, 8), 4);
        onlyAnswers("find none", x -> x.find(0, 11), NONE);
        onlyAnswers("costOfTurn of whole chunks", x -> x.costOfTurn(2, 7), 0);
        onlyAnswers("costOfTurn of a part", x -> x.costOfTurn(0, 0), 3);
        onlyAnswers("fault", x -> x.fault(), 10);
    }

    private static void nothingOfNone() {
        refused("of none: putIn behind the length", x -> x.putIn(1, 0), NO_SUCH);
        refused("of none: takeOut", x -> x.takeOut(0), NO_SUCH);
        refused("of none: set", x -> x.set(0, 1000), NO_SUCH);
        refused("of none: turn", x -> x.turn(0, 0), NO_SUCH);
        refused("of none: add", x -> x.add(0, 0, 1000), NO_SUCH);
        refused("of none: move", x -> x.move(0, 0, 0), NO_SUCH);
        refused("of none: rotate", x -> x.rotate(0, 0, 0), NO_SUCH);
        refused("of none: at", x -> x.at(0), NO_SUCH);
        refused("of none: chunk", x -> x.chunk(0, 0), NO_SUCH);
        refused("of none: kth", x -> x.kth(0, 0, 0), NO_SUCH);
        refused("of none: below", x -> x.below(0, 0, 0), NO_SUCH);
        refused("of none: sum", x -> x.sum(0, 0), NO_SUCH);
        refused("of none: sum of a span without numbers", x -> x.sum(0, -1), NO_SUCH);
        refused("of none: unlike", x -> x.unlike(0, 0), NO_SUCH);
        refused("of none: find", x -> x.find(0, 0), NO_SUCH);
        refused("of none: costOfTurn", x -> x.costOfTurn(0, 0), NO_SUCH);
        refused("an empty pad: carryOut", x -> x.carryOut(), BAD_TEXT);
        refused("no change: undo", x -> x.undo(), NOT_POSSIBLE);
        refused("nothing saved: restore 0", x -> x.restore(0), NOT_POSSIBLE);
        refused("nothing saved: restore 1", x -> x.restore(1), NOT_POSSIBLE);
        onlyAnswers("an empty pad: wipe", x -> x.wipe(), 0);
        onlyAnswers("an empty pad: fault", x -> x.fault(), 0);
    }

    private static void noMoreThanThereIsRoomFor() {
        refused("a 61st number at the front", x -> x.putIn(0, 0), TOO_MANY);
        refused("a 61st number in the midst", x -> x.putIn(30, 999), TOO_MANY);
        refused("a 61st number at the end", x -> x.putIn(60, -999), TOO_MANY);
        refused("the value is checked ahead of the room", x -> x.putIn(60, 1000), BAD_VALUE);
        refused("the place is checked ahead of the room", x -> x.putIn(61, 0), NO_SUCH);
        refused("there is no place 60", x -> x.at(60), NO_SUCH);
        refused("an 81st character", x -> x.put('1'), TOO_MANY);
        refused("eight more characters", x -> x.put(Rows.packed("1;cut0;c")), TOO_MANY);
        refused("a bad character is checked ahead of the room", x -> x.put(' '), BAD_VALUE);
        refused("no character is checked ahead of the room", x -> x.put(0), BAD_VALUE);
    }

    private static void noNumberOutOfRange() {
        refused("99999 and 1", x -> x.add(0, 0, 1), NOT_POSSIBLE);
        refused("-99999 and -1", x -> x.add(2, 2, -1), NOT_POSSIBLE);
        refused("99999 and 999", x -> x.add(0, 0, 999), NOT_POSSIBLE);
        refused("-99999 and -999", x -> x.add(2, 2, -999), NOT_POSSIBLE);
        refused("only the first of the span is too large", x -> x.add(0, 1, 1), NOT_POSSIBLE);
        refused("only the last of the span is too small", x -> x.add(1, 2, -1), NOT_POSSIBLE);
        refused("the first of three is too large", x -> x.add(0, 2, 1), NOT_POSSIBLE);
        refused("by is checked ahead of that", x -> x.add(0, 0, 1000), BAD_VALUE);
        refused("to below from is checked ahead of that", x -> x.add(1, 0, 1), BAD_VALUE);
        refused("places are checked ahead of that", x -> x.add(0, 3, 1), NO_SUCH);
    }
}
