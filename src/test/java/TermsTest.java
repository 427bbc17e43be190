/**
 * The boundary cases of the document's terms, a test for each sentence: the row, its chunks, the root, what waits, the
 * cuts, the changes, and how chunks are evened out. A row is drawn as Rows.drawn() tells; the work stands behind ":".
 */
public final class TermsTest {
    private static final int LENGTH = 0, CHUNKS = 1, ROOT = 2, WORK = 3, UNDOS = 8;

    private static final Check CHECK = new Check();

    public static void main(String[] args) {
        rowBeginsWithoutNumbers();
        rowHasUpToSixtyNumbers();
        numbersReachBothBounds();
        chunksHaveOneOrMoreNumbers();
        rootIsTheGreatestWhoseSquareFits();
        rootIsAtLeastOne();
        whatWaitsIsCarriedOutOnce();
        nothingIsCarriedOutWhereNothingWaits();
        carryingOutLeavesOtherChunks();
        whatWaitsIsNotCarriedOutByQuestions();
        cutsOnlyInsideAChunk();
        cutCostsTheSecondPart();
        cutCarriesOutFirst();
        putInAtTheEnds();
        putInTakesNoPartInWhatWaits();
        takeOutAtTheEnds();
        takeOutCutsThereAndBehind();
        takeOutOfAWholeChunk();
        setLeavesTheChunkWhole();
        turnCutsAheadThenBehind();
        turnOfWholeChunks();
        turnOfOneNumber();
        addCutsAheadThenBehind();
        addOfNothing();
        moveToTheEnds();
        moveKeepsTheOrder();
        moveCutsTheRowThatIsLeft();
        moveToWhereItIs();
        rotateByWhatIsLeftOver();
        rotateByNone();
        rotateOneByOne();
        CHECK.end();
    }

    private static void due(String call, long got, long want) {
        CHECK.due(call, got, want);
    }

    private static void drawn(String when, RootChunks x, String want) {
        CHECK.same(when, Rows.drawn(x), want);
    }

    private static void rowBeginsWithoutNumbers() {
        RootChunks x = new RootChunks();
        drawn("at first there are none", x, ": 0");
        due("the first place is 0", x.putIn(0, 5), 1);
        drawn("the first place is 0", x, "5 : 1");
        x.takeOut(0);
        drawn("none again", x, ": 1");
        due("none again: length", x.count(LENGTH), 0);
        due("none again: chunks", x.count(CHUNKS), 0);
        due("none again: a number can be put in", x.putIn(0, 6), 1);
        drawn("none again: a number can be put in", x, "6 : 2");
    }

    private static void rowHasUpToSixtyNumbers() {
        RootChunks x = Rows.of(59);
        due("the 60th number", x.putIn(59, 7), 60);
        due("the 60th number stands at 59", x.at(59), 100007);
        due("a 61st number", x.putIn(60, 7), RootChunks.TOO_MANY);
        due("60 numbers: one is taken out", x.takeOut(30), 100030);
        due("60 again", x.putIn(0, -1), 60);
        due("a 61st again", x.putIn(0, -1), RootChunks.TOO_MANY);
        due("60 numbers: the whole row is turned", x.turn(0, 59), x.count(CHUNKS));
        due("60 numbers: the last is the first", x.at(59), 99999);
        due("60 numbers: the whole row is rotated", x.rotate(0, 59, 59), x.count(CHUNKS));
        due("60 numbers: its last is the first", x.at(0), 99999);
        due("60 numbers: the whole row is moved", x.move(0, 59, 0), x.count(CHUNKS));
        due("60 numbers: what is added to the whole row", x.add(0, 59, 1), x.count(CHUNKS));
        due("60 numbers: sum of 0 to 58 but 30, 7 and -1, and 1 for each", x.sum(0, 59), 10000000 + 1711 - 30 + 7 - 1 + 60);
        due("60 numbers: kth", x.kth(0, 59, 59), 100059);
        due("60 numbers: the last place is set", x.set(59, -9), x.at(58) - 1);
        Rows.write(x, "set0=1;put0=0;cut0");
        due("a 61st number by a text", x.carryOut(), 1);
        due("a 61st number by a text: still 60", x.count(LENGTH), 60);
    }

    private static void numbersReachBothBounds() {
        RootChunks x = Rows.with(999, -999, 0);
        for (int i = 0; i < 99; i++) {
            x.add(0, 0, 999);
            x.add(1, 1, -999);
        }
        drawn("near the bounds", x, "99900 +98901 | -99900 -98901 | 0 : 3");
        due("99999 is reached", x.add(0, 0, 99), 3);
        due("-99999 is reached", x.add(1, 1, -99), 3);
        drawn("the bounds", x, "99999 +99000 | -99999 -99000 | 0 : 3");
        due("above the greatest", x.add(0, 0, 1), RootChunks.NOT_POSSIBLE);
        due("below the least", x.add(1, 1, -1), RootChunks.NOT_POSSIBLE);
        due("away from the greatest", x.add(0, 0, -1), 3);
        due("away from the least", x.add(1, 1, 1), 3);
        due("a number beside the span does not count", x.add(2, 2, 999), 3);
        due("set: the greatest that is given", x.set(0, 999), 199998);
        due("set: the least that is given", x.set(1, -999), 2);
        drawn("set to what is given", x, "999 | -999 | 999 +999 : 7");
    }

    private static void chunksHaveOneOrMoreNumbers() {
        RootChunks x = Rows.of(5);
        due("a chunk's only number goes", x.takeOut(4), 100004);
        drawn("a chunk's only number goes, and the chunk with it", x, "0 1 | 2 3 : 7");
        x.move(0, 3, 0);
        x.rotate(0, 3, 0);
        x.turn(0, 3);
        drawn("no chunk without numbers comes at the ends", x, "3 2 t | 1 0 t : 7");
        RootChunks one = Rows.with(4);
        one.move(0, 0, 0);
        one.rotate(0, 0, 1);
        one.add(0, 0, 0);
        drawn("one number is one chunk", one, "4 : 1");
    }

    private static void rootIsTheGreatestWhoseSquareFits() {
        int[] firstLengths = {4, 9, 16, 25, 36, 49};
        RootChunks x = new RootChunks();
        for (int length = 1; length <= 60; length++) {
            x.putIn(0, 0);
            for (int i = 0; i < firstLengths.length; i++) {
                if (length == firstLengths[i]) {
                    due("the root of a square, " + length, x.count(ROOT), i + 2);
                }
                if (length == firstLengths[i] - 1) {
                    due("the root of one less, " + length, x.count(ROOT), i + 1);
                }
            }
        }
        due("the root of 60", x.count(ROOT), 7);
        for (int length = 59; length >= 48; length--) {
            x.takeOut(0);
        }
        due("the root falls with the length to 48", x.count(ROOT), 6);
        x.undo();
        due("the root is undone with the length", x.count(ROOT), 7);
    }

    private static void rootIsAtLeastOne() {
        RootChunks x = new RootChunks();
        due("the root of none", x.count(ROOT), 1);
        for (int length = 1; length <= 3; length++) {
            x.putIn(0, 0);
            due("the root of " + length, x.count(ROOT), 1);
        }
        for (int length = 3; length > 0; length--) {
            x.takeOut(0);
        }
        due("the root of none again", x.count(ROOT), 1);
    }

    /** To set a number costs 1, and what is carried out the length of its chunk. */
    private static void whatWaitsIsCarriedOutOnce() {
        RootChunks turn = Rows.of(4);
        turn.turn(0, 1);
        drawn("a turn waits", turn, "1 0 t | 2 3 : 6");
        turn.set(0, 7);
        drawn("a turn is carried out", turn, "7 0 | 2 3 : 9");
        RootChunks sum = Rows.of(4);
        sum.add(0, 1, 5);
        drawn("a sum waits", sum, "5 6 +5 | 2 3 : 6");
        sum.set(1, 7);
        drawn("a sum is carried out", sum, "5 7 | 2 3 : 9");
        RootChunks less = Rows.of(4);
        less.add(2, 3, -1);
        less.set(2, 7);
        drawn("a sum below 0 is carried out", less, "0 1 | 7 2 : 9");
        RootChunks both = Rows.of(4);
        both.turn(0, 1);
        both.add(0, 1, 5);
        drawn("both wait", both, "6 5 t +5 | 2 3 : 6");
        both.set(1, 7);
        drawn("both are carried out, at the cost of one", both, "6 7 | 2 3 : 9");
        RootChunks one = Rows.with(4);
        one.turn(0, 0);
        drawn("a turn waits for one number", one, "4 t : 1");
        one.set(0, 5);
        drawn("a turn of one number costs, too", one, "5 : 3");
    }

    private static void nothingIsCarriedOutWhereNothingWaits() {
        RootChunks x = Rows.of(4);
        x.set(0, 7);
        drawn("nothing waits", x, "7 1 | 2 3 : 7");
        x.turn(0, 1);
        x.turn(0, 1);
        x.set(0, 8);
        drawn("a turn and a turn: none waits", x, "8 1 | 2 3 : 8");
        x.add(2, 3, 5);
        x.add(2, 3, -5);
        x.set(3, 9);
        drawn("a sum and its contrary: none waits", x, "8 1 | 2 9 : 9");
        x.set(3, 9);
        drawn("carried out already", x, "8 1 | 2 9 : 10");
    }

    private static void carryingOutLeavesOtherChunks() {
        RootChunks x = Rows.of(6);
        x.turn(0, 5);
        x.add(0, 5, 1);
        drawn("something waits in each", x, "6 5 t +1 | 4 3 t +1 | 2 1 t +1 : 9");
        x.set(2, 0);
        drawn("only the chunk of the number is carried out", x, "6 5 t +1 | 0 3 | 2 1 t +1 : 12");
        x.takeOut(1);
        drawn("only the chunk that is cut is carried out", x, "6 | 0 3 | 2 1 t +1 : 15");
    }

    private static void whatWaitsIsNotCarriedOutByQuestions() {
        RootChunks x = Rows.of(6);
        x.turn(0, 3);
        x.add(2, 5, 1);
        String before = "3 2 t | 2 1 t +1 | 5 6 +1 : 9";
        drawn("something waits", x, before);
        due("kth", x.kth(1, 4, 3), 100005);
        due("below", x.below(1, 4, 3), 3);
        due("sum", x.sum(1, 4), 10000010);
        due("unlike", x.unlike(1, 4), 3);
        due("find", x.find(1, 1), 3);
        due("costOfTurn: at each end 2 carried out, 1 cut, 1 carried out, 1 joined", x.costOfTurn(1, 4), 10);
        due("save", x.save(0), 6);
        drawn("questions carry nothing out", x, before);
    }

    private static void cutsOnlyInsideAChunk() {
        RootChunks x = Rows.of(4);
        x.turn(0, 1);
        x.putIn(0, 9);
        drawn("at the first place nothing is cut", x, "9 | 1 0 t | 2 3 : 7");
        RootChunks between = Rows.of(4);
        between.turn(0, 1);
        between.add(2, 3, 1);
        between.putIn(2, 9);
        drawn("between two chunks nothing is cut", between, "1 0 t | 9 | 3 4 +1 : 7");
        RootChunks behind = Rows.of(4);
        behind.turn(2, 3);
        behind.putIn(4, 9);
        drawn("behind the last number nothing is cut", behind, "0 1 | 3 2 t | 9 : 7");
    }

    private static void cutCostsTheSecondPart() {
        RootChunks x = Rows.of(9);
        x.putIn(7, 50);
        drawn("behind the first number of three", x, "0 1 | 2 3 | 4 5 6 | 50 7 8 : 20");
        RootChunks last = Rows.of(9);
        last.putIn(8, 50);
        drawn("ahead of the last number of three", last, "0 1 | 2 3 | 4 5 | 6 7 50 | 8 : 17");
    }

    private static void cutCarriesOutFirst() {
        RootChunks x = Rows.of(4);
        x.turn(0, 1);
        x.putIn(1, 9);
        drawn("what waits in the chunk is carried out first", x, "1 9 | 0 | 2 3 : 11");
        RootChunks sum = Rows.of(4);
        sum.add(0, 3, 2);
        sum.putIn(3, 9);
        drawn("the sum is carried out, too, but not in the other chunk", sum, "2 3 +2 | 4 9 | 5 : 11");
    }

    private static void putInAtTheEnds() {
        RootChunks x = Rows.of(5);
        due("at place 0", x.putIn(0, 999), 6);
        drawn("at place 0", x, "999 | 0 1 | 2 3 | 4 : 8");
        due("at the length", x.putIn(6, -999), 7);
        drawn("at the length", x, "999 | 0 1 | 2 3 | 4 -999 : 10");
        due("ahead of the last", x.putIn(6, 5), 8);
        drawn("ahead of the last", x, "999 | 0 1 | 2 3 | 4 5 | -999 : 13");
    }

    private static void putInTakesNoPartInWhatWaits() {
        RootChunks x = Rows.of(4);
        x.turn(0, 3);
        x.add(0, 3, 5);
        x.putIn(2, 9);
        drawn("nothing waits for the new number", x, "8 7 t +5 | 9 | 6 5 t +5 : 7");
    }

    private static void takeOutAtTheEnds() {
        RootChunks first = Rows.of(9);
        due("the first", first.takeOut(0), 100000);
        drawn("the first: cut behind it", first, "1 | 2 3 | 4 5 | 6 7 8 : 15");
        RootChunks last = Rows.of(9);
        due("the last", last.takeOut(8), 100008);
        drawn("the last: cut ahead of it", last, "0 1 | 2 3 | 4 5 | 6 7 : 15");
    }

    private static void takeOutCutsThereAndBehind() {
        RootChunks x = Rows.of(9);
        x.takeOut(7);
        drawn("cut there at 2, then behind it at 1, and joined at 1", x, "0 1 | 2 3 | 4 5 | 6 8 : 18");
        RootChunks first = Rows.of(9);
        first.takeOut(6);
        drawn("the first of three: cut behind it alone", first, "0 1 | 2 3 | 4 5 | 7 8 : 16");
    }

    private static void takeOutOfAWholeChunk() {
        RootChunks x = Rows.of(5);
        x.turn(4, 4);
        x.add(4, 4, 6);
        drawn("one number for which a turn and a sum wait", x, "0 1 | 2 3 | 10 t +6 : 7");
        due("it is answered as it stands in the row", x.takeOut(4), 100010);
        drawn("nothing is carried out, nothing is touched", x, "0 1 | 2 3 : 7");
        due("no turn waits any more", x.count(5), 0);
        due("no sum waits any more", x.count(6), 0);
        due("the longest chunk", x.count(4), 2);
    }

    private static void setLeavesTheChunkWhole() {
        RootChunks x = Rows.of(9);
        x.set(7, 50);
        drawn("a chunk is not cut", x, "0 1 | 2 3 | 4 5 | 6 50 8 : 15");
        x.set(7, 50);
        drawn("to the number that it is: that is work, too", x, "0 1 | 2 3 | 4 5 | 6 50 8 : 16");
        due("to the number that it is: that is a change, too", x.undo(), 5);
        drawn("to the number that it is: that is a change, too", x, "0 1 | 2 3 | 4 5 | 6 50 8 : 15");
        x.add(6, 8, 100);
        x.turn(6, 8);
        due("the number as it stood", x.set(6, 1), 100108);
        drawn("the sum is not added to the new number", x, "0 1 | 2 3 | 4 5 | 1 150 106 : 19");
    }

    private static void turnCutsAheadThenBehind() {
        RootChunks x = Rows.of(9);
        x.turn(7, 7);
        drawn("cuts of 2 and 1, and two joins behind them", x, "0 1 | 2 3 | 4 5 6 | 7 8 : 20");
        RootChunks at = Rows.of(9);
        at.turn(1, 2);
        drawn("an end in each of two chunks", at, "0 2 1 | 3 4 5 | 6 7 8 : 22");
    }

    private static void turnOfWholeChunks() {
        RootChunks x = Rows.of(6);
        due("the whole row", x.turn(0, 5), 3);
        drawn("the chunks stand the other way round", x, "5 4 t | 3 2 t | 1 0 t : 9");
        due("some of them again", x.turn(0, 3), 3);
        drawn("none waits where one did", x, "2 3 | 4 5 | 1 0 t : 9");
        due("the whole row again", x.turn(0, 5), 3);
        drawn("one waits where none did, none where one did", x, "0 1 | 5 4 t | 3 2 t : 9");
        x.add(0, 3, 7);
        x.turn(2, 5);
        drawn("a sum goes with its chunk", x, "7 8 +7 | 2 3 | 11 12 +7 : 9");
    }

    private static void turnOfOneNumber() {
        RootChunks x = Rows.with(4, 5);
        due("one number", x.turn(1, 1), 2);
        drawn("a turn waits for one number, too", x, "4 | 5 t : 2");
        due("it is a chunk's first that is kept", x.chunk(1, 4), 1);
        due("one number again", x.turn(1, 1), 2);
        drawn("none waits again", x, "4 | 5 : 2");
    }

    private static void addCutsAheadThenBehind() {
        RootChunks x = Rows.of(9);
        x.add(7, 7, 1);
        drawn("cuts of 2 and 1, and two joins behind them", x, "0 1 | 2 3 | 4 5 6 | 8 8 : 20");
        RootChunks whole = Rows.of(4);
        due("the greatest", whole.add(0, 3, 999), 2);
        due("the least to some of it", whole.add(2, 3, -999), 2);
        drawn("what is added goes to the sum that waits", whole, "999 1000 +999 | 2 3 : 6");
        whole.turn(0, 1);
        whole.add(0, 1, 1);
        drawn("a turn waits on", whole, "1001 1000 t +1000 | 2 3 : 6");
    }

    private static void addOfNothing() {
        RootChunks x = Rows.of(4);
        due("0", x.add(0, 3, 0), 2);
        drawn("0: nothing waits", x, "0 1 | 2 3 : 6");
        due("0 is a change", x.count(UNDOS), 5);
        due("0 to a part", x.add(1, 1, 0), 2);
        drawn("0 to a part: it is cut, and joined again", x, "0 1 | 2 3 : 8");
    }

    private static void moveToTheEnds() {
        RootChunks first = Rows.of(9);
        due("to place 0", first.move(2, 3, 0), 4);
        drawn("to place 0", first, "2 3 | 0 1 | 4 5 | 6 7 8 : 14");
        RootChunks last = Rows.of(9);
        due("to the length without the span", last.move(2, 3, 7), 4);
        drawn("to the length without the span", last, "0 1 | 4 5 | 6 7 8 | 2 3 : 14");
        RootChunks one = Rows.of(9);
        due("the first one to the last place", one.move(0, 0, 8), 4);
        drawn("the first one to the last place", one, "1 2 3 | 4 5 | 6 7 8 | 0 : 17");
        RootChunks whole = Rows.of(9);
        due("the whole row to place 0", whole.move(0, 8, 0), 4);
        drawn("the whole row to place 0", whole, "0 1 | 2 3 | 4 5 | 6 7 8 : 14");
    }

    private static void moveKeepsTheOrder() {
        RootChunks x = Rows.of(9);
        x.turn(0, 1);
        x.add(2, 3, 9);
        x.move(0, 3, 3);
        drawn("chunks in their order, and what waits in them", x, "4 5 6 | 1 0 t | 11 12 +9 | 7 8 : 17");
        x.move(3, 6, 0);
        drawn("ahead of all", x, "1 0 t | 11 12 +9 | 4 5 6 | 7 8 : 17");
    }

    private static void moveCutsTheRowThatIsLeft() {
        RootChunks x = Rows.of(9);
        x.move(0, 1, 5);
        drawn("the place is that of the row that is left", x, "2 3 | 4 5 6 | 0 1 | 7 8 : 17");
        RootChunks ahead = Rows.of(9);
        ahead.move(6, 8, 1);
        drawn("ahead of the span", ahead, "0 | 6 7 8 | 1 2 3 | 4 5 : 17");
        RootChunks within = Rows.of(9);
        within.turn(6, 8);
        within.move(8, 8, 7);
        drawn("within its chunk, in which a turn waits", within, "0 1 | 2 3 | 4 5 8 | 6 7 : 21");
    }

    private static void moveToWhereItIs() {
        RootChunks x = Rows.of(9);
        due("chunks to where they are", x.move(2, 5, 2), 4);
        drawn("chunks to where they are: nothing is touched", x, "0 1 | 2 3 | 4 5 | 6 7 8 : 14");
        due("a part to where it is", x.move(7, 7, 7), 4);
        drawn("a part to where it is: it is cut", x, "0 1 | 2 3 | 4 5 6 | 7 8 : 19");
        due("to where it is: a change", x.count(UNDOS), 6);
        x.undo();
        drawn("to where it is: a change", x, "0 1 | 2 3 | 4 5 | 6 7 8 : 14");
    }

    private static void rotateByWhatIsLeftOver() {
        int[] by = {1, 2, 3, 4, 6, -1, -2, -3, -4, -6, 999, -999, 996, -996, 998};
        int[] first = {1, 2, 3, 4, 1, 4, 3, 2, 1, 4, 4, 1, 1, 4, 3};
        for (int i = 0; i < by.length; i++) {
            RootChunks x = Rows.of(5);
            due("rotate by " + by[i], x.rotate(0, 4, by[i]), x.count(CHUNKS));
            for (int place = 0; place < 5; place++) {
                due("rotate by " + by[i] + ": at " + place, x.at(place), 100000 + (first[i] + place) % 5);
            }
        }
        RootChunks part = Rows.of(9);
        part.rotate(2, 6, -1);
        drawn("by -1 a span of 5 as by 4: 2 to 5 behind 6", part, "0 1 6 | 2 3 | 4 5 | 7 8 : 17");
        part = Rows.of(9);
        part.rotate(2, 6, 4);
        drawn("by 4", part, "0 1 6 | 2 3 | 4 5 | 7 8 : 17");
    }

    private static void rotateByNone() {
        for (int by : new int[] {0, 5, -5, 995, -995}) {
            RootChunks x = Rows.of(9);
            due("by none, " + by, x.rotate(1, 5, by), 4);
            drawn("by none, " + by + ": nothing is cut", x, "0 1 | 2 3 | 4 5 | 6 7 8 : 14");
            due("by none, " + by + ": it is a change", x.count(UNDOS), 6);
            due("by none, " + by + ": it is a change", x.undo(), 5);
            drawn("by none, " + by + ": it is undone", x, "0 1 | 2 3 | 4 5 | 6 7 8 : 14");
        }
    }

    private static void rotateOneByOne() {
        RootChunks x = Rows.of(9);
        for (int by : new int[] {1, -1, 0, 999, -999}) {
            due("a span of one by " + by, x.rotate(7, 7, by), 4);
        }
        drawn("a span of one: nothing is cut", x, "0 1 | 2 3 | 4 5 | 6 7 8 : 14");
        x.rotate(7, 8, 999);
        drawn("a span of two by 999 as by 1", x, "0 1 | 2 3 | 4 5 6 | 8 7 : 19");
    }
}
