import java.util.function.ToIntFunction;

/** The boundary cases of undo, save and restore, a test for each sentence. A row is drawn as Rows.drawn() tells. */
public final class UndoTest {
    private static final int NOT_POSSIBLE = -5, BAD_VALUE = -2;
    private static final int LENGTH = 0, ROOT = 2, PAD = 7, UNDOS = 8;

    private static final Check CHECK = new Check();

    public static void main(String[] args) {
        noneCanBeUndoneAtFirst();
        sixStatesAreKept();
        oldestIsDropped();
        eachChangeRecords();
        whatIsNotDifferentIsRecorded();
        othersRecordNothing();
        errorsRecordNothing();
        textRecordsOnce();
        allButPadSlotsAndHistoryIsUndone();
        undoIsNotRecorded();
        historyGoesOnBehindUndo();
        slotsAreTwo();
        savedIsOverwritten();
        savedIsKept();
        savedIsAllButPadHistoryAndSlots();
        noneIsSavedToo();
        restoreIsAChange();
        restoreDropsTheOldest();
        fullRowIsSavedAndUndone();
        CHECK.end();
    }

    private static void due(String call, long got, long want) {
        CHECK.due(call, got, want);
    }

    private static void drawn(String when, RootChunks x, String want) {
        CHECK.same(when, Rows.drawn(x), want);
    }

    private static void noneCanBeUndoneAtFirst() {
        RootChunks x = new RootChunks();
        due("undo at first", x.undo(), NOT_POSSIBLE);
        due("undo at first again", x.undo(), NOT_POSSIBLE);
        x.putIn(0, 5);
        due("undo the first change", x.undo(), 0);
        drawn("the work is undone with the row", x, ": 0");
        due("undo once more than there are changes", x.undo(), NOT_POSSIBLE);
    }

    private static void sixStatesAreKept() {
        for (int changes = 0; changes <= 8; changes++) {
            RootChunks x = Rows.of(changes);
            int kept = Math.min(changes, 6);
            due("undoable after " + changes, x.count(UNDOS), kept);
            for (int left = kept - 1; left >= 0; left--) {
                due("undo after " + changes, x.undo(), left);
                due("undoable then", x.count(UNDOS), left);
            }
            due("undo is not possible after " + changes, x.undo(), NOT_POSSIBLE);
            due("what is left of " + changes, x.count(LENGTH), changes - kept);
        }
    }

    private static void oldestIsDropped() {
        RootChunks x = Rows.with(1, 2, 3);
        for (int value = 10; value < 17; value++) {
            x.set(0, value);
        }
        int[] before = {15, 14, 13, 12, 11, 10};
        for (int number : before) {
            x.undo();
            due("the states come back from the latest on", x.at(0), 100000 + number);
        }
        due("the first of seven is dropped", x.undo(), NOT_POSSIBLE);
        drawn("the first of seven is dropped", x, "10 | 2 | 3 : 4");
    }

    private static void eachChangeRecords() {
        records("putIn", x -> x.putIn(4, 4));
        records("takeOut", x -> x.takeOut(1));
        records("set", x -> x.set(1, 9));
        records("turn", x -> x.turn(0, 2));
        records("add", x -> x.add(0, 2, 9));
        records("move", x -> x.move(0, 1, 2));
        records("rotate", x -> x.rotate(0, 3, 1));
        records("carryOut", x -> {
            Rows.write(x, "cut0;set0=8;turn0-2");
            return x.carryOut();
        });
        records("restore", x -> {
            x.save(0);
            return x.restore(0);
        });
    }

    /** Four numbers behind six changes, of which one is undone, so that there is room for one more. */
    private static RootChunks four() {
        RootChunks x = Rows.of(4);
        x.turn(0, 1);
        x.add(2, 3, 5);
        drawn("four", x, "1 0 t | 7 8 +5 : 6");
        x.undo();
        return x;
    }

    private static void records(String change, ToIntFunction<RootChunks> made) {
        RootChunks x = four();
        CHECK.holds(change + " returns no error", made.applyAsInt(x) >= 0);
        due(change + " records", x.count(UNDOS), 6);
        due(change + " is undone", x.undo(), 5);
        CHECK.same(change + " is undone", Rows.answers(x), Rows.answers(four()));
    }

    private static void whatIsNotDifferentIsRecorded() {
        records("rotate by 0", x -> x.rotate(0, 3, 0));
        records("rotate by the length", x -> x.rotate(0, 3, 4));
        records("rotate one", x -> x.rotate(3, 3, 1));
        records("add 0", x -> x.add(0, 3, 0));
        records("move to where it is", x -> x.move(0, 1, 0));
        records("set to the number that it is", x -> x.set(2, 2));
        records("carryOut of none", x -> {
            Rows.write(x, "cut4;cut0");
            return x.carryOut();
        });
    }

    private static void othersRecordNothing() {
        RootChunks x = Rows.of(3);
        x.at(0);
        x.chunk(0, 0);
        x.count(0);
        x.kth(0, 2, 0);
        x.below(0, 2, 0);
        x.sum(0, 2);
        x.unlike(0, 2);
        x.find(0, 2);
        x.costOfTurn(0, 2);
        x.put('c');
        x.fault();
        x.wipe();
        x.save(0);
        x.save(1);
        due("no change", x.count(UNDOS), 3);
        due("the latest change is undone", x.undo(), 2);
        due("the latest change is undone", x.count(LENGTH), 2);
    }

    private static void errorsRecordNothing() {
        RootChunks x = Rows.of(3);
        int[] errors = {x.putIn(4, 0), x.takeOut(3), x.set(0, 1000), x.turn(1, 0), x.add(0, 0, 1000), x.move(0, 2, 1),
            x.rotate(0, 3, 1), x.carryOut(), x.restore(0), x.restore(2)};
        int[] want = {-1, -1, -2, -2, -2, -2, -1, -3, -5, -2};
        for (int i = 0; i < errors.length; i++) {
            due("error " + i, errors[i], want[i]);
        }
        due("errors are no changes", x.count(UNDOS), 3);
        x.undo();
        drawn("the latest change is undone", x, "0 | 1 : 2");
    }

    private static void textRecordsOnce() {
        RootChunks x = Rows.of(2);
        Rows.write(x, "put0=1;put0=2;put0=3;put0=4;put0=5;put0=6;put0=7;put0=8");
        due("eight orders", x.carryOut(), 8);
        due("one change with all of them", x.count(UNDOS), 3);
        due("one change with all of them", x.undo(), 2);
        drawn("one change with all of them", x, "0 | 1 : 2");
        Rows.write(x, "set0=9;cut2;set0=7");
        due("up to the first error", x.carryOut(), 1);
        drawn("up to the first error", x, "9 | 1 : 3");
        due("a change with what was carried out", x.undo(), 2);
        drawn("a change with what was carried out", x, "0 | 1 : 2");
    }

    private static void allButPadSlotsAndHistoryIsUndone() {
        RootChunks x = four();
        String before = Rows.drawn(x);
        x.save(0);
        x.turn(1, 2);
        x.save(1);
        String then = Rows.drawn(x);
        Rows.write(x, "cut");
        due("undo", x.undo(), 5);
        drawn("chunks, what waits and the work", x, before);
        due("the pad stays", x.count(PAD), 3);
        due("the pad stays", x.put('0'), 4);
        due("the slots stay", x.restore(1), 4);
        drawn("the slots stay", x, then);
        due("the pad is still there", x.carryOut(), 1);
        due("the row of the pad's order", x.count(LENGTH), 3);
        due("undo what the pad did", x.undo(), 5);
        due("an emptied pad stays so", x.count(PAD), 0);
    }

    private static void undoIsNotRecorded() {
        RootChunks x = Rows.of(3);
        due("undo", x.undo(), 2);
        due("undo of the change ahead of it", x.undo(), 1);
        due("there is one left", x.count(UNDOS), 1);
        drawn("undo does not bring back what was undone", x, "0 : 1");
    }

    private static void historyGoesOnBehindUndo() {
        RootChunks x = Rows.of(8);
        x.undo();
        x.undo();
        for (int i = 0; i < 3; i++) {
            x.set(0, 50 + i);
        }
        due("six again", x.count(UNDOS), 6);
        String[] rows = {"51 1", "50 1", "0 1"};
        for (String row : rows) {
            x.undo();
            CHECK.holds("back to " + row, Rows.drawn(x).startsWith(row + " | 2 3 | 4 5 : "));
        }
        for (int length = 5; length >= 3; length--) {
            due("the changes ahead of them", x.undo(), length - 3);
            due("the changes ahead of them", x.count(LENGTH), length);
        }
        due("the oldest one was dropped", x.undo(), NOT_POSSIBLE);
    }

    private static void slotsAreTwo() {
        RootChunks x = Rows.of(2);
        due("slot 0", x.save(0), 2);
        due("slot 1 is another one", x.restore(1), NOT_POSSIBLE);
        x.takeOut(0);
        due("slot 1", x.save(1), 1);
        due("slot -1", x.save(-1), BAD_VALUE);
        due("slot 2", x.save(2), BAD_VALUE);
        due("restore -1", x.restore(-1), BAD_VALUE);
        due("restore 2", x.restore(2), BAD_VALUE);
        due("restore 0", x.restore(0), 2);
        drawn("restore 0", x, "0 | 1 : 2");
        due("restore 1", x.restore(1), 1);
        drawn("restore 1", x, "1 : 2");
    }

    private static void savedIsOverwritten() {
        RootChunks x = Rows.of(5);
        x.save(0);
        x.turn(0, 3);
        x.save(0);
        x.set(0, 9);
        x.restore(0);
        drawn("what was saved last", x, "3 2 t | 1 0 t | 4 : 7");
        x.takeOut(4);
        due("a shorter row is saved over a longer one", x.save(0), 4);
        x.putIn(0, 7);
        x.putIn(0, 7);
        due("a shorter row is restored over a longer one", x.restore(0), 4);
        drawn("a shorter row is restored over a longer one", x, "3 2 t | 1 0 t : 7");
    }

    private static void savedIsKept() {
        RootChunks x = Rows.of(4);
        x.turn(0, 1);
        x.save(1);
        for (int i = 0; i < 3; i++) {
            x.set(0, 7);
            x.add(0, 3, 5);
            x.takeOut(2);
            due("restored again", x.restore(1), 4);
            drawn("the slot keeps it, whatever is changed then", x, "1 0 t | 2 3 : 6");
        }
        x.undo();
        due("undo leaves the slot", x.restore(1), 4);
        drawn("undo leaves the slot", x, "1 0 t | 2 3 : 6");
    }

    private static void savedIsAllButPadHistoryAndSlots() {
        RootChunks x = Rows.of(4);
        x.add(0, 1, 5);
        x.save(0);
        x.turn(1, 2);
        x.save(1);
        Rows.write(x, "cut0");
        int undos = x.count(UNDOS);
        x.restore(0);
        drawn("chunks, what waits and the work", x, "5 6 +5 | 2 3 : 6");
        due("not the pad", x.count(PAD), 4);
        due("not the history", x.count(UNDOS), undos);
        due("not the slots", x.restore(1), 4);
        CHECK.holds("not the slots", Rows.drawn(x).startsWith("5 2 | 6 3 : "));
    }

    private static void noneIsSavedToo() {
        RootChunks x = new RootChunks();
        due("save no number", x.save(0), 0);
        x.putIn(0, 4);
        due("restore no number", x.restore(0), 0);
        drawn("restore no number", x, ": 0");
        due("restore no number: a change", x.undo(), 1);
        drawn("restore no number: a change", x, "4 : 1");
    }

    private static void restoreIsAChange() {
        RootChunks x = Rows.of(4);
        x.save(0);
        x.takeOut(0);
        String before = Rows.drawn(x);
        due("restore", x.restore(0), 4);
        due("restore records", x.count(UNDOS), 6);
        due("restore is undone", x.undo(), 5);
        drawn("restore is undone", x, before);
        due("restore what nothing was saved in", x.restore(1), NOT_POSSIBLE);
        due("that records nothing", x.count(UNDOS), 5);
    }

    private static void restoreDropsTheOldest() {
        RootChunks x = Rows.of(6);
        x.save(0);
        x.restore(0);
        due("restore is the seventh change", x.count(UNDOS), 6);
        for (int left = 5; left >= 0; left--) {
            due("undo", x.undo(), left);
        }
        drawn("the oldest state is dropped", x, "0 : 1");
    }

    private static void fullRowIsSavedAndUndone() {
        RootChunks x = Rows.of(60);
        x.turn(0, 59);
        String full = Rows.drawn(x);
        x.save(0);
        for (int i = 0; i < 6; i++) {
            x.takeOut(0);
        }
        for (int i = 0; i < 6; i++) {
            x.undo();
        }
        drawn("a full row is undone", x, full);
        x.takeOut(0);
        due("a full row is restored", x.restore(0), 60);
        drawn("a full row is restored", x, full);
        due("its root", x.count(ROOT), 7);
    }
}
