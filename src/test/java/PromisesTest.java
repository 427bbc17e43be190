/** For each promise: ordinary inputs, the edges that the document names, and wrong inputs, worked out by hand. */
public final class PromisesTest {
    private static final int NO_SUCH = -1, BAD_VALUE = -2, BAD_TEXT = -3, TOO_MANY = -4, NOT_POSSIBLE = -5, NONE = -6;
    private static final int LENGTH = 0, CHUNKS = 1, ROOT = 2, WORK = 3, LONGEST = 4, TURNS = 5, SUMS = 6, PAD = 7, UNDOS = 8;

    private static final Check CHECK = new Check();

    public static void main(String[] args) {
        promise1NewObject();
        promise2PutIn();
        promise2Errors();
        promise3TakeOut();
        promise3LongChunksAreParted();
        promise3LongChunkBehindOthers();
        promise4Set();
        promise5Turn();
        promise6Add();
        promise6Limits();
        promise7Move();
        promise7OrderOfCuts();
        promise8Rotate();
        promise9At();
        promise10Chunk();
        promise11Count();
        promise12Kth();
        promise13Below();
        promise14Sum();
        promise15Unlike();
        promise16Find();
        promise17CostOfTurn();
        promise18Put();
        promise19Wipe();
        promise20Fault();
        promise20FaultOfLongTexts();
        promise21CarryOut();
        promise21EachWord();
        promise22Undo();
        promise22UndoLeaves();
        promise23Save();
        promise24Restore();
        CHECK.end();
    }

    private static void due(String call, long got, long want) {
        CHECK.due(call, got, want);
    }

    private static void numbersDue(String when, RootChunks x, int... numbers) {
        due(when + ": length", x.count(LENGTH), numbers.length);
        for (int i = 0; i < numbers.length; i++) {
            due(when + ": at " + i, x.at(i), numbers[i] + 100000);
        }
    }

    /** The lengths of the chunks are given as the digits of a number. */
    private static void chunksDue(String when, RootChunks x, long lengths, int work) {
        long got = 0;
        for (int chunk = 0; chunk < x.count(CHUNKS); chunk++) {
            got = 10 * got + x.chunk(chunk, 0);
        }
        due(when + ": lengths of the chunks", got, lengths);
        due(when + ": work", x.count(WORK), work);
    }

    private static void spanErrorsDue(String call, int beyondTo, int beyondFrom, int belowTo, int belowFrom, int contrary) {
        due(call + " with to beyond the row", beyondTo, NO_SUCH);
        due(call + " with from beyond the row", beyondFrom, NO_SUCH);
        due(call + " with to below 0", belowTo, NO_SUCH);
        due(call + " with from below 0", belowFrom, NO_SUCH);
        due(call + " with to below from", contrary, BAD_VALUE);
    }

    private static void promise1NewObject() {
        RootChunks x = new RootChunks();
        int[] counts = {0, 0, 1, 0, 0, 0, 0, 0, 0};
        for (int what = 0; what < counts.length; what++) {
            due("new: count " + what, x.count(what), counts[what]);
        }
        due("new: at", x.at(0), NO_SUCH);
        due("new: chunk", x.chunk(0, 0), NO_SUCH);
        due("new: undo", x.undo(), NOT_POSSIBLE);
        due("new: restore 0", x.restore(0), NOT_POSSIBLE);
        due("new: restore 1", x.restore(1), NOT_POSSIBLE);
        due("new: fault", x.fault(), 0);
        due("new: sum", x.sum(0, 0), NO_SUCH);
        RootChunks other = new RootChunks();
        other.putIn(0, 1);
        due("new: another object is another row", x.count(LENGTH), 0);
        due("constants", RootChunks.NO_SUCH * 100000L + RootChunks.BAD_VALUE * 10000 + RootChunks.BAD_TEXT * 1000
            + RootChunks.TOO_MANY * 100 + RootChunks.NOT_POSSIBLE * 10 + RootChunks.NONE, -123456);
    }

    private static void promise2PutIn() {
        RootChunks x = Rows.of(5);
        chunksDue("putIn: five", x, 221, 7);
        due("putIn inside a chunk", x.putIn(1, 50), 6);
        chunksDue("putIn inside a chunk", x, 2121, 10);
        numbersDue("putIn inside a chunk", x, 0, 50, 1, 2, 3, 4);
        due("putIn the greatest", x.putIn(0, 999), 7);
        due("putIn the least", x.putIn(7, -999), 8);
        numbersDue("putIn at both ends", x, 999, 0, 50, 1, 2, 3, 4, -999);
        RootChunks turned = Rows.of(4);
        turned.turn(0, 1);
        due("putIn where a turn waits", turned.putIn(1, 7), 5);
        chunksDue("putIn where a turn waits", turned, 212, 11);
        numbersDue("putIn where a turn waits", turned, 1, 7, 0, 2, 3);
        due("putIn is a change", turned.count(UNDOS), 6);
    }

    private static void promise2Errors() {
        RootChunks x = new RootChunks();
        due("putIn behind the end", x.putIn(1, 1000), NO_SUCH);
        due("putIn below 0", x.putIn(-1, 0), NO_SUCH);
        due("putIn too great", x.putIn(0, 1000), BAD_VALUE);
        due("putIn too little", x.putIn(0, -1000), BAD_VALUE);
        due("putIn: an error is no change", x.count(UNDOS), 0);
        for (int i = 0; i < 60; i++) {
            due("putIn up to 60", x.putIn(0, i), i + 1);
        }
        due("putIn 61st", x.putIn(0, 0), TOO_MANY);
        due("putIn 61st at the end", x.putIn(60, 0), TOO_MANY);
        due("putIn 61st, a bad value", x.putIn(60, 1000), BAD_VALUE);
        due("putIn 61st, no place", x.putIn(61, 1000), NO_SUCH);
        due("putIn: still 60", x.count(LENGTH), 60);
        due("putIn: first of 60", x.at(0), 100059);
        due("putIn: last of 60", x.at(59), 100000);
    }

    private static void promise3TakeOut() {
        RootChunks x = Rows.of(5);
        due("takeOut", x.takeOut(2), 100002);
        chunksDue("takeOut", x, 22, 9);
        numbersDue("takeOut", x, 0, 1, 3, 4);
        due("takeOut below 0", x.takeOut(-1), NO_SUCH);
        due("takeOut behind the end", x.takeOut(4), NO_SUCH);
        chunksDue("takeOut: an error changes nothing", x, 22, 9);
        due("takeOut is a change", x.count(UNDOS), 6);
        RootChunks one = Rows.with(5);
        one.add(0, 0, -7);
        due("takeOut what a sum waits for", one.takeOut(0), 99998);
        chunksDue("takeOut: its chunk is not carried out", one, 0, 1);
        due("takeOut of none", one.takeOut(0), NO_SUCH);
        due("takeOut: the root of none", one.count(ROOT), 1);
    }

    private static void promise3LongChunksAreParted() {
        RootChunks x = Rows.of(9);
        chunksDue("nine", x, 2223, 14);
        int[] lengths = {1223, 223, 123, 23, 13, 12};
        int[] works = {15, 15, 16, 16, 17, 19};
        for (int i = 0; i < lengths.length; i++) {
            due("takeOut the first", x.takeOut(0), 100000 + i);
            chunksDue("takeOut the first of " + (9 - i), x, lengths[i], works[i]);
        }
        RootChunks turned = Rows.of(9);
        turned.turn(6, 8);
        for (int i = 0; i < 6; i++) {
            turned.takeOut(0);
        }
        chunksDue("a long chunk is carried out ahead of its parting", turned, 12, 22);
        due("no turn waits in the parts", turned.count(TURNS), 0);
        numbersDue("a long chunk that was turned", turned, 8, 7, 6);
    }

    private static void promise3LongChunkBehindOthers() {
        RootChunks x = Rows.of(36);
        chunksDue("thirty-six", x, 45344556, x.count(WORK));
        x.turn(25, 29);
        for (int i = 0; i < 6; i++) {
            x.takeOut(30);
        }
        for (int i = 0; i < 21; i++) {
            x.takeOut(0);
        }
        x.turn(0, 1);
        chunksDue("two short ones and a long one in which a turn waits", x, 225, x.count(WORK));
        int work = x.count(WORK);
        due("takeOut so that the root falls to 2", x.takeOut(0), 100022);
        chunksDue("the long one is parted behind others", x, 1223, work + 11);
        numbersDue("the long one is parted behind others", x, 21, 23, 24, 29, 28, 27, 26, 25);
    }

    private static void promise4Set() {
        RootChunks x = Rows.of(4);
        x.turn(0, 1);
        x.add(0, 3, 5);
        chunksDue("set: ahead", x, 22, 6);
        due("set", x.set(0, -999), 100006);
        chunksDue("set", x, 22, 9);
        numbersDue("set", x, -999, 5, 7, 8);
        due("set: its chunk is carried out: turn", x.chunk(0, 2), 0);
        due("set: its chunk is carried out: sum", x.chunk(0, 3), 100000);
        due("set: the other is not", x.chunk(1, 3), 100005);
        due("set the last", x.set(3, 999), 100008);
        chunksDue("set the last", x, 22, 12);
        due("set again", x.set(0, 0), 99001);
        chunksDue("set where nothing waits", x, 22, 13);
        due("set no place", x.set(4, 1000), NO_SUCH);
        due("set below 0", x.set(-1, 0), NO_SUCH);
        due("set too great", x.set(0, 1000), BAD_VALUE);
        due("set too little", x.set(3, -1000), BAD_VALUE);
        chunksDue("set: an error changes nothing", x, 22, 13);
        due("set takes -999 back", x.undo() + x.undo() * 10L + x.undo() * 100L, 345);
        numbersDue("set is undone", x, 6, 5, 7, 8);
    }

    private static void promise5Turn() {
        RootChunks x = Rows.of(9);
        due("turn", x.turn(1, 6), 4);
        chunksDue("turn", x, 2232, 23);
        numbersDue("turn", x, 0, 6, 5, 4, 3, 2, 1, 7, 8);
        due("turn: one waits", x.count(TURNS), 1);
        due("turn: it waits in chunk 1", x.chunk(1, 2), 1);
        due("turn: what chunk 1 keeps first", x.chunk(1, 4), 3);
        spanErrorsDue("turn", x.turn(0, 9), x.turn(9, 0), x.turn(0, -1), x.turn(-1, 0), x.turn(2, 1));
        due("turn: errors are no changes", x.count(UNDOS), 6);
        chunksDue("turn: errors change nothing", x, 2232, 23);
        RootChunks twice = Rows.of(4);
        due("turn all", twice.turn(0, 3), 2);
        due("turn all: both wait", twice.count(TURNS), 2);
        numbersDue("turn all", twice, 3, 2, 1, 0);
        due("turn all again", twice.turn(0, 3), 2);
        due("turn all again: none waits", twice.count(TURNS), 0);
        chunksDue("turn all again", twice, 22, 6);
        numbersDue("turn all again", twice, 0, 1, 2, 3);
        RootChunks one = Rows.with(7);
        due("turn one", one.turn(0, 0), 1);
        due("turn one: a turn waits", one.chunk(0, 2), 1);
        chunksDue("turn one", one, 1, 1);
    }

    private static void promise6Add() {
        RootChunks x = Rows.of(4);
        due("add", x.add(0, 3, 7), 2);
        chunksDue("add", x, 22, 6);
        due("add: both wait", x.count(SUMS), 2);
        due("add: the sum that waits", x.chunk(1, 3), 100007);
        due("add to the midst", x.add(1, 2, -7), 2);
        chunksDue("add to the midst", x, 22, 16);
        numbersDue("add to the midst", x, 7, 1, 2, 10);
        due("add to the midst: none waits", x.count(SUMS), 0);
        RootChunks none = Rows.of(4);
        due("add 0", none.add(1, 1, 0), 2);
        chunksDue("add 0 cuts, too", none, 22, 8);
        due("add 0 is a change", none.count(UNDOS), 5);
        none.add(0, 1, 3);
        none.add(0, 1, -3);
        due("a sum of 0 does not wait", none.count(SUMS), 0);
        spanErrorsDue("add", none.add(0, 4, 0), none.add(4, 0, 1000), none.add(0, -1, 0), none.add(-1, 0, 1000),
            none.add(2, 1, 0));
        due("add too great", none.add(0, 1, 1000), BAD_VALUE);
        due("add too little", none.add(0, 1, -1000), BAD_VALUE);
        chunksDue("add: errors change nothing", none, 22, 8);
    }

    private static void promise6Limits() {
        RootChunks x = Rows.with(0, 1);
        for (int i = 0; i < 100; i++) {
            due("add 999", x.add(0, 1, 999), 2);
        }
        due("add up to 99999", x.add(0, 1, 98), 2);
        due("add above it", x.add(0, 1, 1), NOT_POSSIBLE);
        due("add above it, to one", x.add(1, 1, 1), NOT_POSSIBLE);
        due("add to the other one", x.add(0, 0, 1), 2);
        numbersDue("the greatest", x, 99999, 99999);
        due("add: a bad value ahead of what is not possible", x.add(0, 1, 1000), BAD_VALUE);
        due("add: a contrary span ahead of it", x.add(1, 0, 999), BAD_VALUE);
        due("add: no such place ahead of it", x.add(0, 2, 999), NO_SUCH);
        due("find the greatest", x.find(1, 99999), 1);
        due("sum of the greatest", x.sum(0, 1), 10199998);
        for (int i = 0; i < 200; i++) {
            due("add -999", x.add(0, 1, -999), 2);
        }
        due("add down to -99999", x.add(0, 1, -198), 2);
        due("add below it", x.add(0, 1, -1), NOT_POSSIBLE);
        due("add below it, to one", x.add(0, 0, -1), NOT_POSSIBLE);
        numbersDue("the least", x, -99999, -99999);
        due("sum of the least", x.sum(0, 1), 9800002);
        due("the sum that waits: kept was 0", x.chunk(0, 3), 1);
        due("the sum that waits: kept was 1", x.chunk(1, 3), 0);
        due("kth of the least", x.kth(0, 1, 1), 1);
        due("below the least", x.below(0, 1, -99999), 0);
        due("below one more", x.below(0, 1, -99998), 2);
        due("find the least", x.find(0, -99999), 0);
        due("set the least", x.set(1, 3), 1);
        due("takeOut the least", x.takeOut(0), 1);
    }

    private static void promise7Move() {
        RootChunks x = Rows.of(9);
        due("move back", x.move(0, 1, 3), 3);
        chunksDue("move back", x, 333, 17);
        numbersDue("move back", x, 2, 3, 4, 0, 1, 5, 6, 7, 8);
        RootChunks ahead = Rows.of(9);
        due("move ahead", ahead.move(7, 8, 1), 3);
        chunksDue("move ahead", ahead, 333, 22);
        numbersDue("move ahead", ahead, 0, 7, 8, 1, 2, 3, 4, 5, 6);
        RootChunks still = Rows.of(4);
        due("move to where it is", still.move(1, 1, 1), 2);
        chunksDue("move to where it is: it is cut", still, 22, 8);
        due("move to where it is: a change", still.count(UNDOS), 5);
        due("move all", still.move(0, 3, 0), 2);
        due("move all further", still.move(0, 3, 1), BAD_VALUE);
        due("move to the end", still.move(0, 1, 2), 2);
        numbersDue("move to the end", still, 2, 3, 0, 1);
        due("move behind the end", still.move(0, 1, 3), BAD_VALUE);
        due("move below 0", still.move(0, 1, -1), BAD_VALUE);
        spanErrorsDue("move", still.move(0, 4, 9), still.move(4, 0, -1), still.move(0, -1, 0), still.move(-1, 0, 0),
            still.move(2, 1, 0));
        numbersDue("move: errors change nothing", still, 2, 3, 0, 1);
        RootChunks turned = Rows.of(4);
        turned.turn(0, 1);
        due("move a chunk in which a turn waits", turned.move(0, 1, 2), 2);
        due("move: the turn still waits", turned.chunk(1, 2), 1);
        due("move: none in the other", turned.chunk(0, 2), 0);
        numbersDue("move a turned chunk", turned, 2, 3, 1, 0);
        chunksDue("move whole chunks costs nothing", turned, 22, 6);
    }

    /** Which of two cuts in one chunk comes first is told by the work. */
    private static void promise7OrderOfCuts() {
        RootChunks ahead = Rows.of(9);
        ahead.move(7, 7, 0);
        numbersDue("move ahead out of a chunk", ahead, 7, 0, 1, 2, 3, 4, 5, 6, 8);
        chunksDue("move: cut ahead of the span, then behind it, then at the place", ahead, 3231, 20);
        RootChunks behind = Rows.of(9);
        behind.move(5, 6, 6);
        numbersDue("move within a chunk", behind, 0, 1, 2, 3, 4, 7, 5, 6, 8);
        chunksDue("move: cut behind the span, then at the place behind it", behind, 2331, 21);
    }

    private static void promise8Rotate() {
        RootChunks x = Rows.of(5);
        due("rotate by 1", x.rotate(0, 4, 1), 3);
        chunksDue("rotate by 1", x, 122, 9);
        numbersDue("rotate by 1", x, 1, 2, 3, 4, 0);
        RootChunks back = Rows.of(5);
        due("rotate by -1", back.rotate(0, 4, -1), 3);
        chunksDue("rotate by -1", back, 122, 7);
        numbersDue("rotate by -1 is as by 4", back, 4, 0, 1, 2, 3);
        due("rotate by 999", rotated(999), 40123);
        due("rotate by -999", rotated(-999), 12340);
        due("rotate by 7", rotated(7), 23401);
        due("rotate by -5", rotated(-5), 1234);
        RootChunks part = Rows.of(5);
        part.rotate(1, 3, 1);
        numbersDue("rotate a part", part, 0, 2, 3, 1, 4);
        RootChunks none = Rows.of(4);
        due("rotate by 0", none.rotate(1, 2, 0), 2);
        due("rotate by its length", none.rotate(1, 2, 2), 2);
        due("rotate by less its length", none.rotate(1, 2, -2), 2);
        due("rotate one", none.rotate(1, 1, 7), 2);
        chunksDue("rotate by none: nothing is done", none, 22, 6);
        due("rotate by none: changes", none.count(UNDOS), 6);
        due("rotate by the greatest", none.rotate(0, 0, 999), 2);
        due("rotate by the least", none.rotate(0, 0, -999), 2);
        due("rotate too far", none.rotate(0, 1, 1000), BAD_VALUE);
        due("rotate too far back", none.rotate(0, 1, -1000), BAD_VALUE);
        spanErrorsDue("rotate", none.rotate(0, 4, 1000), none.rotate(4, 0, 0), none.rotate(0, -1, 0),
            none.rotate(-1, 0, 0), none.rotate(2, 1, 0));
    }

    /** The digits of five numbers, rotated. */
    private static int rotated(int by) {
        RootChunks x = Rows.of(5);
        x.rotate(0, 4, by);
        int digits = 0;
        for (int place = 0; place < 5; place++) {
            digits = 10 * digits + x.at(place) - 100000;
        }
        return digits;
    }

    private static void promise9At() {
        RootChunks x = Rows.with(5, -3, 999, -999);
        numbersDue("at", x, 5, -3, 999, -999);
        x.turn(0, 1);
        x.add(0, 1, -4);
        numbersDue("at where a turn and a sum wait", x, -7, 1, 999, -999);
        due("at -1", x.at(-1), NO_SUCH);
        due("at the length", x.at(4), NO_SUCH);
        due("at the greatest", x.at(Integer.MAX_VALUE), NO_SUCH);
        due("at the least", x.at(Integer.MIN_VALUE), NO_SUCH);
        due("at: nothing is carried out", x.count(WORK), 6);
    }

    private static void promise10Chunk() {
        RootChunks x = Rows.of(5);
        x.turn(2, 3);
        x.add(2, 3, -5);
        int[][] answers = {{2, 0, 0, 100000, 0}, {2, 2, 1, 99995, 3}, {1, 4, 0, 100000, 4}};
        for (int chunk = 0; chunk < answers.length; chunk++) {
            for (int what = 0; what < 5; what++) {
                due("chunk " + chunk + " " + what, x.chunk(chunk, what), answers[chunk][what]);
            }
        }
        due("chunk -1", x.chunk(-1, 0), NO_SUCH);
        due("chunk 3", x.chunk(3, 0), NO_SUCH);
        due("chunk 3, a bad what", x.chunk(3, 5), NO_SUCH);
        due("chunk far off", x.chunk(Integer.MAX_VALUE, 0), NO_SUCH);
        due("chunk far below", x.chunk(Integer.MIN_VALUE, 0), NO_SUCH);
        due("chunk 0 -1", x.chunk(0, -1), BAD_VALUE);
        due("chunk 0 5", x.chunk(0, 5), BAD_VALUE);
    }

    private static void promise11Count() {
        RootChunks x = new RootChunks();
        for (int length = 1; length <= 60; length++) {
            x.putIn(0, 0);
            due("count: length", x.count(LENGTH), length);
            due("count: root of " + length, x.count(ROOT), (int) Math.sqrt(length));
            due("count: undos", x.count(UNDOS), Math.min(length, 6));
        }
        due("count: the longest is in the midst", x.count(LONGEST), 7);
        RootChunks first = Rows.of(4);
        first.turn(0, 3);
        first.takeOut(3);
        first.takeOut(2);
        due("count: the longest is as long as twice the root", first.count(LONGEST), 2);
        due("count: the root of 2", first.count(ROOT), 1);
        RootChunks one = new RootChunks();
        for (int i = 0; i < 9; i++) {
            one.putIn(0, i);
        }
        chunksDue("nine put in at the front", one, 3222, 15);
        due("count: the longest is the first", one.count(LONGEST), 3);
        RootChunks y = Rows.of(9);
        y.turn(0, 3);
        y.add(4, 8, 2);
        y.put(Rows.packed("abc"));
        int[] counts = {9, 4, 3, 14, 3, 2, 2, 3, 6};
        for (int what = 0; what < counts.length; what++) {
            due("count " + what, y.count(what), counts[what]);
        }
        due("count -1", y.count(-1), BAD_VALUE);
        due("count 9", y.count(9), BAD_VALUE);
        due("count far off", y.count(Integer.MAX_VALUE), BAD_VALUE);
        due("count far below", y.count(Integer.MIN_VALUE), BAD_VALUE);
    }

    private static void promise12Kth() {
        RootChunks x = Rows.with(5, 3, 5, -2);
        int[] sorted = {99998, 100003, 100005, 100005};
        for (int k = 0; k < 4; k++) {
            due("kth " + k, x.kth(0, 3, k), sorted[k]);
        }
        due("kth of a part", x.kth(1, 2, 1), 100005);
        due("kth of a part, the least", x.kth(1, 2, 0), 100003);
        due("kth of one", x.kth(3, 3, 0), 99998);
        due("kth, k below 0", x.kth(0, 3, -1), BAD_VALUE);
        due("kth, k too great", x.kth(0, 3, 4), BAD_VALUE);
        due("kth, k too great for a part", x.kth(1, 2, 2), BAD_VALUE);
        due("kth, k far off", x.kth(0, 3, Integer.MAX_VALUE), BAD_VALUE);
        spanErrorsDue("kth", x.kth(0, 4, -1), x.kth(4, 0, 0), x.kth(0, -1, 0), x.kth(-1, 0, 0), x.kth(2, 1, 0));
        x.turn(0, 1);
        x.add(0, 1, 10);
        due("kth where something waits", x.kth(0, 3, 3), 100015);
        due("kth where something waits, the next", x.kth(0, 3, 2), 100013);
        due("kth of a part that waits", x.kth(0, 0, 0), 100013);
        due("kth: nothing is carried out", x.count(WORK), 6);
        RootChunks near = Rows.with(3, 4, 5);
        due("kth of neighbours", near.kth(0, 2, 1), 100004);
        due("kth of neighbours, the greatest", near.kth(0, 2, 2), 100005);
    }

    private static void promise13Below() {
        RootChunks x = Rows.with(5, 3, 5, -2);
        due("below 5", x.below(0, 3, 5), 2);
        due("below 6", x.below(0, 3, 6), 4);
        due("below -2", x.below(0, 3, -2), 0);
        due("below 4 in a part", x.below(0, 2, 4), 1);
        due("below the greatest", x.below(1, 3, 99999), 3);
        due("below the least", x.below(1, 3, -99999), 0);
        due("below above the greatest", x.below(0, 3, 100000), BAD_VALUE);
        due("below below the least", x.below(0, 3, -100000), BAD_VALUE);
        due("below far off", x.below(0, 3, Integer.MIN_VALUE), BAD_VALUE);
        spanErrorsDue("below", x.below(0, 4, 100000), x.below(4, 0, 0), x.below(0, -1, 0), x.below(-1, 0, 0),
            x.below(2, 1, 0));
        x.add(0, 1, 10);
        due("below where a sum waits", x.below(0, 3, 13), 2);
        due("below: nothing is carried out", x.count(WORK), 6);
    }

    private static void promise14Sum() {
        RootChunks x = Rows.with(5, 3, 5, -20);
        due("sum", x.sum(0, 3), 9999993);
        due("sum of a part", x.sum(0, 2), 10000013);
        due("sum of one", x.sum(3, 3), 9999980);
        spanErrorsDue("sum", x.sum(0, 4), x.sum(4, 0), x.sum(0, -1), x.sum(-1, 0), x.sum(2, 1));
        x.turn(0, 1);
        x.add(0, 1, 100);
        due("sum where something waits", x.sum(1, 2), 10000110);
        due("sum: nothing is carried out", x.count(WORK), 6);
        RootChunks y = Rows.of(9);
        y.turn(6, 8);
        due("sum where a turn waits, first", y.sum(6, 6), 10000008);
        due("sum where a turn waits, second", y.sum(7, 7), 10000007);
        due("sum where a turn waits, last", y.sum(8, 8), 10000006);
        due("sum ahead of where a turn waits", y.sum(0, 5), 10000015);
    }

    private static void promise15Unlike() {
        RootChunks x = Rows.with(5, 3, 5, -2);
        due("unlike", x.unlike(0, 3), 3);
        due("unlike of a part", x.unlike(0, 1), 2);
        due("unlike of a part that begins later", x.unlike(1, 3), 3);
        due("unlike of one", x.unlike(2, 2), 1);
        spanErrorsDue("unlike", x.unlike(0, 4), x.unlike(4, 0), x.unlike(0, -1), x.unlike(-1, 0), x.unlike(2, 1));
        x.add(0, 1, 2);
        due("unlike where a sum waits: 7 5 5 -2", x.unlike(0, 3), 3);
        x.add(0, 1, -2);
        x.add(0, 0, -2);
        due("unlike: 3 3 5 -2", x.unlike(0, 1), 1);
    }

    private static void promise16Find() {
        RootChunks x = Rows.with(5, 3, 5, -2);
        due("find", x.find(0, 5), 0);
        due("find from 1 on", x.find(1, 5), 2);
        due("find from where it is", x.find(2, 5), 2);
        due("find behind it", x.find(3, 5), NONE);
        due("find the last", x.find(0, -2), 3);
        due("find none", x.find(0, 4), NONE);
        due("find the greatest", x.find(0, 99999), NONE);
        due("find the least", x.find(0, -99999), NONE);
        due("find above the greatest", x.find(0, 100000), BAD_VALUE);
        due("find below the least", x.find(0, -100000), BAD_VALUE);
        due("find from the length on", x.find(4, 100000), NO_SUCH);
        due("find from -1 on", x.find(-1, 5), NO_SUCH);
        x.turn(0, 1);
        due("find where a turn waits", x.find(0, 5), 1);
        due("find: nothing is carried out", x.count(WORK), 6);
    }

    private static void promise17CostOfTurn() {
        RootChunks x = Rows.of(9);
        due("costOfTurn", x.costOfTurn(1, 6), 9);
        due("costOfTurn of a chunk", x.costOfTurn(0, 1), 0);
        chunksDue("costOfTurn changes nothing", x, 2223, 14);
        numbersDue("costOfTurn changes nothing", x, 0, 1, 2, 3, 4, 5, 6, 7, 8);
        due("costOfTurn: no turn waits", x.count(TURNS), 0);
        due("costOfTurn is no change", x.count(UNDOS), 6);
        x.turn(0, 1);
        due("costOfTurn where a turn waits", x.costOfTurn(0, 0), 5);
        due("costOfTurn: the turn still waits", x.count(TURNS), 1);
        spanErrorsDue("costOfTurn", x.costOfTurn(0, 9), x.costOfTurn(9, 0), x.costOfTurn(0, -1), x.costOfTurn(-1, 0),
            x.costOfTurn(2, 1));
        x.turn(0, 0);
        due("the turn costs as much", x.count(WORK), 19);
    }

    private static void promise18Put() {
        RootChunks x = new RootChunks();
        due("put A", x.put(65), 1);
        due("put the least", x.put(33), 2);
        due("put the greatest", x.put(126), 3);
        due("put 32", x.put(32), BAD_VALUE);
        due("put 127", x.put(127), BAD_VALUE);
        due("put 255", x.put(255), BAD_VALUE);
        due("put none", x.put(0), BAD_VALUE);
        due("put -1", x.put(-1L), BAD_VALUE);
        due("put the least number", x.put(Long.MIN_VALUE), BAD_VALUE);
        due("put with 0 as its last character", x.put(0x4100L), BAD_VALUE);
        due("put with 0 between", x.put(0x410041L), BAD_VALUE);
        due("put with a far bit above 0", x.put(0x0100000000000041L), BAD_VALUE);
        due("put with a bad one ahead", x.put(0x2041L), BAD_VALUE);
        due("put with a bad one as the first of eight", x.put(0x8041414141414141L), BAD_VALUE);
        due("put: errors change nothing", x.count(PAD), 3);
        due("put eight", x.put(Rows.packed("abcdefgh")), 11);
        due("put is no change", x.count(UNDOS), 0);
        due("wipe", x.wipe(), 11);
        for (int i = 1; i <= 9; i++) {
            x.put(Rows.packed("abcdefgh"));
        }
        due("put up to 76", x.put(Rows.packed("abcd")), 76);
        due("put up to 81", x.put(Rows.packed("abcde")), TOO_MANY);
        due("put up to 80", x.put(Rows.packed("abcd")), 80);
        due("put one more", x.put(65), TOO_MANY);
        due("put a bad one more", x.put(32), BAD_VALUE);
        due("put: still 80", x.count(PAD), 80);
        RootChunks order = new RootChunks();
        order.put(Rows.packed("pu"));
        order.put(Rows.packed("t0=17"));
        due("put: the last character is the lowest", order.carryOut(), 1);
        numbersDue("put: the last character is the lowest", order, 17);
    }

    private static void promise19Wipe() {
        RootChunks x = Rows.of(2);
        due("wipe nothing", x.wipe(), 0);
        Rows.write(x, "put0=1;cut");
        due("wipe", x.wipe(), 10);
        due("wipe: the pad is empty", x.count(PAD), 0);
        due("wipe: no text", x.fault(), 0);
        due("wipe again", x.wipe(), 0);
        due("wipe is no change", x.count(UNDOS), 2);
    }

    private static void promise20Fault() {
        String[] right = {"put0=1", "put0=-0", "put0=0", "put999=999", "put10=-999", "cut0", "cut100", "set1=2", "set1=-2",
            "turn1-2", "add1-2=3", "add1-2=-3", "move1-2>3", "roll1-2=-3", "roll0-0=0", "cut0;cut1;turn0-0"};
        for (String text : right) {
            faultDue(text, NONE);
        }
        String[] early = {"", "p", "pu", "put", "put0", "put0=", "put0=-", "c", "cu", "cut", "s", "set1", "set1=", "t", "turn",
            "turn1", "turn1-", "a", "add1", "add1-", "add1-2", "add1-2=", "m", "move1-2", "move1-2>", "r", "roll1-2=-",
            "cut0;", "cut0;p"};
        for (String text : early) {
            faultDue(text, text.length());
        }
        // The fault is the place of the bar, which is not of the text.
        String[] wrong = {"|x", "|Put0=1", "|;", "|-", "|1", "p|x", "put|t", "t|x", "tur|m", "pu|x", "put|-1=0", "put0|0=1",
            "put0|1=1", "put1|-1", "put0=|;", "put0=-|-1", "put100|0=1", "put1=100|0", "put0=-100|0", "put0=0|1", "put0=-0|1",
            "put0=1|x", "put0=1|-", "put|=1", "cut|x", "cut0|,", "cut0|=1", "cut1|-2", "cut0;|;", "cut0;cut1;|x", "set1|-2",
            "turn1|=2", "turn1-|-2", "turn1-2|=3", "turn0|1-2", "add1-2|>3", "add1-2=3|-", "add1|=2", "move1-2|=3",
            "move1-2>|-3", "move1|>2", "roll1-2|>3", "roll1-|=3", "cut|;", "cut999|9;x", "cu|T0"};
        for (String text : wrong) {
            faultDue(text.replace("|", ""), text.indexOf('|'));
        }
    }

    private static void faultDue(String text, int want) {
        RootChunks x = new RootChunks();
        Rows.write(x, text);
        due("fault of " + text, x.fault(), want);
        due("fault of " + text + " again", x.fault(), want);
        due("fault leaves " + text, x.count(PAD), text.length());
    }

    private static void promise20FaultOfLongTexts() {
        String full = "cut0;".repeat(15);
        faultDue(full + "cut99", NONE);
        faultDue(full + "cut0;", 80);
        faultDue(full + "cut0=", 79);
        faultDue(full + "cut", 78);
    }

    private static void promise21CarryOut() {
        RootChunks x = new RootChunks();
        due("carryOut nothing", x.carryOut(), BAD_TEXT);
        Rows.write(x, "put0=5;x");
        due("carryOut a fault", x.carryOut(), BAD_TEXT);
        due("carryOut a fault: the pad stays", x.count(PAD), 8);
        due("carryOut a fault: no change", x.count(UNDOS), 0);
        due("carryOut a fault: no number", x.count(LENGTH), 0);
        x.wipe();
        Rows.write(x, "put0=5;put1=-6;cut5;put0=1");
        due("carryOut up to an error", x.carryOut(), 2);
        numbersDue("carryOut up to an error", x, 5, -6);
        due("carryOut: the pad is empty", x.count(PAD), 0);
        due("carryOut: one change", x.count(UNDOS), 1);
        Rows.write(x, "cut2;cut0");
        due("carryOut none", x.carryOut(), 0);
        numbersDue("carryOut none", x, 5, -6);
        due("carryOut none: the pad is empty", x.count(PAD), 0);
        due("carryOut none: a change", x.count(UNDOS), 2);
        due("undo none", x.undo(), 1);
        numbersDue("undo none", x, 5, -6);
        due("undo all orders", x.undo(), 0);
        numbersDue("undo all orders", x);
        due("undo all orders: work", x.count(WORK), 0);
        due("undo: the pad stays empty", x.count(PAD), 0);
    }

    private static void promise21EachWord() {
        RootChunks x = Rows.of(9);
        Rows.write(x, "turn1-6");
        due("carryOut a turn", x.carryOut(), 1);
        chunksDue("carryOut a turn", x, 2232, 23);
        numbersDue("carryOut a turn", x, 0, 6, 5, 4, 3, 2, 1, 7, 8);
        RootChunks y = Rows.of(5);
        Rows.write(y, "set0=-10;cut1;add1-2=-7;move0-0>3;roll0-3=1;put2=999");
        due("carryOut each word", y.carryOut(), 6);
        numbersDue("carryOut each word", y, -4, 4, 999, -10, -5);
        RootChunks once = new RootChunks();
        Rows.write(once, "put0=0;".repeat(11).substring(0, 76));
        due("carryOut eleven", once.carryOut(), 11);
        chunksDue("carryOut evens out behind each order", once, 23222, 18);
        due("carryOut eleven: one change", once.count(UNDOS), 1);
        String[] failing = {"put6=1", "set5=1", "cut5", "turn4-5", "turn4-3", "add0-5=1", "add1-0=1", "move0-1>4", "move5-5>0",
            "roll1-0=1", "roll5-0=1"};
        for (String order : failing) {
            Rows.write(y, order + ";cut0");
            due("carryOut " + order, y.carryOut(), 0);
            numbersDue("carryOut " + order, y, -4, 4, 999, -10, -5);
        }
    }

    private static void promise22Undo() {
        RootChunks x = Rows.of(8);
        for (int left = 5; left >= 0; left--) {
            due("undo", x.undo(), left);
            due("undo: length", x.count(LENGTH), left + 2);
        }
        due("undo a seventh time", x.undo(), NOT_POSSIBLE);
        numbersDue("undo six of eight", x, 0, 1);
        chunksDue("undo six of eight", x, 11, 2);
        x.putIn(2, 2);
        due("undo can be used anew", x.count(UNDOS), 1);
        due("an error records nothing", x.putIn(9, 0), NO_SUCH);
        due("an error records nothing", x.count(UNDOS), 1);
        RootChunks y = Rows.of(9);
        y.turn(0, 1);
        y.add(0, 3, 4);
        y.turn(1, 6);
        y.undo();
        chunksDue("undo: chunks and work", y, 2223, 14);
        due("undo: the turn waits again", y.chunk(0, 2), 1);
        due("undo: the sum waits again", y.chunk(0, 3), 100004);
        numbersDue("undo: numbers", y, 5, 4, 6, 7, 4, 5, 6, 7, 8);
        int undos = y.count(UNDOS);
        due("what is not different is recorded, too", y.rotate(0, 0, 0), 4);
        due("what is not different is recorded, too", y.count(UNDOS), undos + 1);
    }

    private static void promise22UndoLeaves() {
        RootChunks x = new RootChunks();
        x.putIn(0, 1);
        x.save(0);
        x.putIn(1, 2);
        x.save(0);
        Rows.write(x, "abc");
        x.undo();
        due("undo leaves the pad", x.count(PAD), 3);
        due("undo leaves the slots", x.restore(0), 2);
        due("undo leaves the history ahead", x.count(UNDOS), 2);
        int[] changes = {x.putIn(0, 3), x.set(0, 4), x.add(0, 0, 1), x.turn(0, 0), x.move(0, 0, 0), x.rotate(0, 1, 1)};
        due("six changes", changes.length, x.count(UNDOS));
        for (int left = 5; left >= 0; left--) {
            due("undo each change", x.undo(), left);
        }
        numbersDue("undo six changes", x, 1, 2);
    }

    private static void promise23Save() {
        RootChunks x = Rows.of(5);
        due("save 0", x.save(0), 5);
        due("save -1", x.save(-1), BAD_VALUE);
        due("save 2", x.save(2), BAD_VALUE);
        due("save far off", x.save(Integer.MIN_VALUE), BAD_VALUE);
        due("save is no change", x.count(UNDOS), 5);
        x.takeOut(0);
        due("save 1", x.save(1), 4);
        x.takeOut(0);
        due("restore 0", x.restore(0), 5);
        numbersDue("restore 0", x, 0, 1, 2, 3, 4);
        due("restore 1", x.restore(1), 4);
        numbersDue("restore 1", x, 1, 2, 3, 4);
        x.turn(0, 0);
        due("save over it", x.save(0), 4);
        int work = x.count(WORK);
        x.set(0, 9);
        due("restore what was saved last", x.restore(0), 4);
        due("restore what was saved last: work", x.count(WORK), work);
        due("restore what was saved last: length", x.count(LENGTH), 4);
        RootChunks none = new RootChunks();
        due("save none", none.save(1), 0);
        due("restore the other", none.restore(0), NOT_POSSIBLE);
        due("restore none", none.restore(1), 0);
        due("restore none is a change", none.count(UNDOS), 1);
    }

    private static void promise24Restore() {
        RootChunks x = Rows.of(4);
        x.turn(0, 1);
        x.add(2, 3, 7);
        due("restore nothing", x.restore(0), NOT_POSSIBLE);
        due("restore -1", x.restore(-1), BAD_VALUE);
        due("restore 2", x.restore(2), BAD_VALUE);
        due("restore: errors are no changes", x.count(UNDOS), 6);
        x.save(1);
        x.turn(1, 2);
        Rows.write(x, "abc");
        due("restore", x.restore(1), 4);
        due("restore leaves the pad", x.count(PAD), 3);
        chunksDue("restore", x, 22, 6);
        due("restore: the turn waits", x.chunk(0, 2), 1);
        due("restore: the sum waits", x.chunk(1, 3), 100007);
        numbersDue("restore", x, 1, 0, 9, 10);
        x.set(0, 50);
        due("restore: the slot keeps it", x.restore(1), 4);
        numbersDue("restore again", x, 1, 0, 9, 10);
        due("restore is undone", x.undo(), 5);
        numbersDue("restore is undone", x, 50, 0, 9, 10);
        due("the other slot", x.restore(0), NOT_POSSIBLE);
    }
}
