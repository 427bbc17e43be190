/** The boundary cases of what there is and of the questions, a test for each sentence. */
public final class QuestionsTest {
    private static final int NO_SUCH = -1, BAD_VALUE = -2, NONE = -6;

    private static final Check CHECK = new Check();

    public static void main(String[] args) {
        atTheEndsOfTheRow();
        chunkTellsWhat0To4();
        chunkThatIsTurnedKeepsItsLastFirst();
        chunkTellsSumsOfBothSigns();
        countTellsWhat0To8();
        longestChunkAndNone();
        onlyOtherSumsThan0Wait();
        kthFrom0ToTheLengthLess1();
        kthOfEqualNumbers();
        kthAtTheBoundsOfNumbers();
        belowDoesNotCountTheNumberItself();
        belowAtTheBoundsOfNumbers();
        sumAtTheBoundsOfNumbers();
        unlikeOfOneAndOfAll();
        findFromTheFirstToTheLast();
        findNoneOnlyWithoutError();
        findAtTheBoundsOfNumbers();
        spansOfOneAndOfAll();
        spansWithinAChunkThatWaits();
        costOfNothing();
        costIsThatOfTheTurn();
        constantsAreTheDocuments();
        answersUpToThe512thCall();
        CHECK.end();
    }

    private static void due(String call, long got, long want) {
        CHECK.due(call, got, want);
    }

    /** The greatest, 0 and the least number. */
    private static RootChunks bounds() {
        RootChunks x = Rows.with(99, 0, -99);
        for (int i = 0; i < 100; i++) {
            x.add(0, 0, 999);
            x.add(2, 2, -999);
        }
        CHECK.same("bounds", Rows.drawn(x), "99999 +99900 | 0 | -99999 -99900 : 3");
        return x;
    }

    /** Twelve numbers in chunks where a turn, a sum, both or none wait. */
    private static RootChunks waiting() {
        RootChunks x = Rows.of(12);
        x.turn(0, 3);
        x.add(2, 7, -4);
        CHECK.same("waiting", Rows.drawn(x), "3 2 t | -3 -4 t -4 | 0 1 -4 | 2 3 8 | 9 10 11 : 23");
        return x;
    }

    private static void atTheEndsOfTheRow() {
        RootChunks x = Rows.of(9);
        due("the first", x.at(0), 100000);
        due("the last", x.at(8), 100008);
        due("ahead of the first", x.at(-1), NO_SUCH);
        due("behind the last", x.at(9), NO_SUCH);
        x.takeOut(8);
        due("where there was one", x.at(8), NO_SUCH);
    }

    private static void chunkTellsWhat0To4() {
        RootChunks x = Rows.of(5);
        int[][] want = {{2, 0, 0, 100000, 0}, {2, 2, 0, 100000, 2}, {1, 4, 0, 100000, 4}};
        for (int chunk = 0; chunk < 3; chunk++) {
            for (int what = 0; what < 5; what++) {
                due("chunk " + chunk + ", " + what, x.chunk(chunk, what), want[chunk][what]);
            }
            due("chunk " + chunk + ", 5", x.chunk(chunk, 5), BAD_VALUE);
            due("chunk " + chunk + ", -1", x.chunk(chunk, -1), BAD_VALUE);
        }
        for (int what = -1; what <= 5; what++) {
            due("chunk 3, " + what, x.chunk(3, what), NO_SUCH);
            due("chunk -1, " + what, x.chunk(-1, what), NO_SUCH);
        }
    }

    private static void chunkThatIsTurnedKeepsItsLastFirst() {
        RootChunks x = Rows.of(9);
        x.turn(0, 8);
        CHECK.same("turned", Rows.drawn(x), "8 7 6 t | 5 4 t | 3 2 t | 1 0 t : 14");
        int[] keptFirst = {2, 4, 6, 8};
        for (int chunk = 0; chunk < 4; chunk++) {
            due("where chunk " + chunk + " keeps its first", x.chunk(chunk, 4), keptFirst[chunk]);
            due("a turn waits in chunk " + chunk, x.chunk(chunk, 2), 1);
        }
        x.turn(3, 4);
        due("turned back", x.chunk(1, 4), 3);
        due("turned back", x.chunk(1, 2), 0);
    }

    private static void chunkTellsSumsOfBothSigns() {
        RootChunks x = Rows.with(0);
        due("a sum of 0", x.chunk(0, 3), 100000);
        x.add(0, 0, 999);
        due("a sum above 0", x.chunk(0, 3), 100999);
        x.add(0, 0, -999);
        x.add(0, 0, -999);
        due("a sum below 0", x.chunk(0, 3), 99001);
        RootChunks far = bounds();
        for (int i = 0; i < 200; i++) {
            far.add(0, 0, -999);
        }
        due("from the greatest number down", far.add(0, 0, -198), 3);
        due("from the greatest number down", far.at(0), 1);
        due("a sum that would not be a number of the row", far.chunk(0, 3), 100000 - 99999 - 99);
    }

    private static void countTellsWhat0To8() {
        RootChunks x = waiting();
        x.put('x');
        int[] want = {12, 5, 3, 23, 3, 2, 2, 1, 6};
        for (int what = 0; what <= 8; what++) {
            due("count " + what, x.count(what), want[what]);
        }
        due("count -1", x.count(-1), BAD_VALUE);
        due("count 9", x.count(9), BAD_VALUE);
    }

    private static void longestChunkAndNone() {
        RootChunks x = new RootChunks();
        due("without chunks", x.count(4), 0);
        x.putIn(0, 1);
        due("of one number", x.count(4), 1);
        x.takeOut(0);
        due("without chunks again", x.count(4), 0);
        due("without chunks again: no chunk", x.count(1), 0);
        RootChunks longest = Rows.of(9);
        longest.turn(6, 8);
        longest.add(6, 8, 1);
        due("where a turn and a sum wait", longest.count(4), 3);
    }

    private static void onlyOtherSumsThan0Wait() {
        RootChunks x = Rows.of(6);
        x.add(0, 5, 3);
        due("in each", x.count(6), 3);
        x.add(2, 3, -3);
        due("but where it is 0 again", x.count(6), 2);
        due("no turn", x.count(5), 0);
        x.turn(0, 5);
        due("a turn in each", x.count(5), 3);
        due("sums as before", x.count(6), 2);
    }

    private static void kthFrom0ToTheLengthLess1() {
        RootChunks x = Rows.with(7, -3, 5, 0, 9);
        due("the least one", x.kth(0, 4, 0), 99997);
        due("the greatest one", x.kth(0, 4, 4), 100009);
        due("k below 0", x.kth(0, 4, -1), BAD_VALUE);
        due("k is the length of the span", x.kth(0, 4, 5), BAD_VALUE);
        due("of a part: the least one", x.kth(2, 3, 0), 100000);
        due("of a part: the greatest one", x.kth(2, 3, 1), 100005);
        due("of a part: k is its length", x.kth(2, 3, 2), BAD_VALUE);
        due("of one: the only one", x.kth(4, 4, 0), 100009);
        due("of one: k is 1", x.kth(4, 4, 1), BAD_VALUE);
    }

    private static void kthOfEqualNumbers() {
        RootChunks x = Rows.with(4, 2, 4, 4, 2);
        int[] want = {2, 2, 4, 4, 4};
        for (int k = 0; k < 5; k++) {
            due("equal numbers count one by one, k = " + k, x.kth(0, 4, k), 100000 + want[k]);
        }
    }

    private static void kthAtTheBoundsOfNumbers() {
        RootChunks x = bounds();
        due("the least number", x.kth(0, 2, 0), 1);
        due("0", x.kth(0, 2, 1), 100000);
        due("the greatest number", x.kth(0, 2, 2), 199999);
        due("one, the greatest", x.kth(0, 0, 0), 199999);
        due("one, the least", x.kth(2, 2, 0), 1);
    }

    private static void belowDoesNotCountTheNumberItself() {
        RootChunks x = Rows.with(4, 2, 4, 3, 2);
        int[] want = {0, 0, 2, 3, 5};
        for (int value = 1; value <= 5; value++) {
            due("below " + value, x.below(0, 4, value), want[value - 1]);
        }
        due("below 4 in a part", x.below(2, 3, 4), 1);
        due("below 4 of one", x.below(0, 0, 4), 0);
        due("below 5 of one", x.below(0, 0, 5), 1);
    }

    private static void belowAtTheBoundsOfNumbers() {
        RootChunks x = bounds();
        due("below the greatest", x.below(0, 2, 99999), 2);
        due("below the least", x.below(0, 2, -99999), 0);
        due("below one more than the least", x.below(0, 2, -99998), 1);
        due("below more than the greatest", x.below(0, 2, 100000), BAD_VALUE);
        due("below less than the least", x.below(0, 2, -100000), BAD_VALUE);
    }

    private static void sumAtTheBoundsOfNumbers() {
        RootChunks x = new RootChunks();
        for (int i = 0; i < 60; i++) {
            x.putIn(0, 999);
        }
        for (int i = 0; i < 99; i++) {
            x.add(0, 59, 999);
        }
        due("up to the greatest", x.add(0, 59, 99), x.count(1));
        due("60 of the greatest", x.sum(0, 59), 10000000 + 60 * 99999);
        due("one more is not possible", x.add(0, 59, 1), -5);
        for (int i = 0; i < 200; i++) {
            x.add(0, 59, -999);
        }
        due("down to the least", x.add(0, 59, -198), x.count(1));
        due("60 of the least", x.sum(0, 59), 10000000 - 60 * 99999);
        due("one less is not possible", x.add(0, 59, -1), -5);
        due("of both and 0", bounds().sum(0, 2), 10000000);
    }

    private static void unlikeOfOneAndOfAll() {
        RootChunks x = Rows.with(4, 4, 4, 5, 4, -4);
        due("one", x.unlike(3, 3), 1);
        due("equal ones", x.unlike(0, 2), 1);
        due("all", x.unlike(0, 5), 3);
        due("those ahead of the span don't count", x.unlike(4, 5), 2);
        due("those behind the span don't count", x.unlike(0, 3), 2);
        due("all unlike", Rows.of(60).unlike(0, 59), 60);
        due("bounds", bounds().unlike(0, 2), 3);
        x.add(3, 3, -1);
        due("equal in the row, though kept as unlike ones", x.unlike(0, 4), 1);
    }

    private static void findFromTheFirstToTheLast() {
        RootChunks x = Rows.with(4, 5, 4, 6);
        due("the first place of two", x.find(0, 4), 0);
        due("from behind it on", x.find(1, 4), 2);
        due("from where it stands", x.find(2, 4), 2);
        due("from behind the last one on", x.find(3, 4), NONE);
        due("at the last place", x.find(0, 6), 3);
        due("at the last place from there on", x.find(3, 6), 3);
        due("from the length on", x.find(4, 6), NO_SUCH);
        due("from -1 on", x.find(-1, 4), NO_SUCH);
    }

    private static void findNoneOnlyWithoutError() {
        RootChunks x = Rows.of(4);
        due("none", x.find(0, 4), NONE);
        due("none, the greatest", x.find(3, 99999), NONE);
        due("none, the least", x.find(3, -99999), NONE);
        due("no number of a row", x.find(0, 100000), BAD_VALUE);
        due("no number of a row", x.find(0, -100000), BAD_VALUE);
        due("no place", x.find(4, 4), NO_SUCH);
        due("no place and no number of a row", x.find(4, 100000), NO_SUCH);
    }

    private static void findAtTheBoundsOfNumbers() {
        RootChunks x = bounds();
        due("the greatest", x.find(0, 99999), 0);
        due("the least", x.find(0, -99999), 2);
        due("the greatest, from 1 on", x.find(1, 99999), NONE);
    }

    private static void spansOfOneAndOfAll() {
        RootChunks x = waiting();
        int[] numbers = {3, 2, -3, -4, 0, 1, 2, 3, 8, 9, 10, 11};
        for (int place = 0; place < numbers.length; place++) {
            due("at " + place, x.at(place), 100000 + numbers[place]);
            due("kth at " + place, x.kth(place, place, 0), 100000 + numbers[place]);
            due("sum at " + place, x.sum(place, place), 10000000 + numbers[place]);
            due("unlike at " + place, x.unlike(place, place), 1);
            due("below at " + place, x.below(place, place, numbers[place]), 0);
            due("below one more at " + place, x.below(place, place, numbers[place] + 1), 1);
            due("find from " + place, x.find(place, numbers[place]), place);
        }
        due("kth of all: the least", x.kth(0, 11, 0), 99996);
        due("kth of all: the greatest", x.kth(0, 11, 11), 100011);
        due("sum of all", x.sum(0, 11), 10000042);
        due("unlike of all: 2 and 3 stand twice", x.unlike(0, 11), 10);
        due("below of all", x.below(0, 11, 0), 2);
        due("costOfTurn of all", x.costOfTurn(0, 11), 0);
    }

    private static void spansWithinAChunkThatWaits() {
        RootChunks x = Rows.of(9);
        x.turn(6, 8);
        x.add(6, 8, 10);
        CHECK.same("18 17 16", Rows.drawn(x), "0 1 | 2 3 | 4 5 | 18 17 16 t +10 : 14");
        due("kth", x.kth(6, 7, 0), 100017);
        due("below", x.below(7, 8, 17), 1);
        due("sum", x.sum(7, 8), 10000033);
        due("sum over its border", x.sum(5, 6), 10000023);
        due("find", x.find(0, 16), 8);
        due("find what is kept, but does not stand there", x.find(0, 7), NONE);
    }

    private static void costOfNothing() {
        RootChunks x = Rows.of(9);
        due("whole chunks", x.costOfTurn(2, 5), 0);
        due("the whole row", x.costOfTurn(0, 8), 0);
        due("one chunk", x.costOfTurn(6, 8), 0);
        due("one number", Rows.of(1).costOfTurn(0, 0), 0);
    }

    private static void costIsThatOfTheTurn() {
        for (int from = 0; from < 12; from++) {
            for (int to = from; to < 12; to++) {
                RootChunks x = waiting();
                int before = x.count(3);
                int cost = x.costOfTurn(from, to);
                CHECK.same("costOfTurn changes nothing", Rows.drawn(x), Rows.drawn(waiting()));
                x.turn(from, to);
                due("the cost of " + from + " to " + to, cost, x.count(3) - before);
            }
        }
        RootChunks x = Rows.of(9);
        due("cuts of 2 and 1, 1 joined, 1 carried out, 1 joined", x.costOfTurn(7, 7), 6);
    }

    private static void constantsAreTheDocuments() {
        due("NO_SUCH", RootChunks.NO_SUCH, -1);
        due("BAD_VALUE", RootChunks.BAD_VALUE, -2);
        due("BAD_TEXT", RootChunks.BAD_TEXT, -3);
        due("TOO_MANY", RootChunks.TOO_MANY, -4);
        due("NOT_POSSIBLE", RootChunks.NOT_POSSIBLE, -5);
        due("NONE", RootChunks.NONE, -6);
    }

    private static void answersUpToThe512thCall() {
        RootChunks x = Rows.of(60);
        for (int call = 60; call < 510; call++) {
            due("rotate by 1", x.rotate(0, 59, 1) >= 0 ? 1 : 0, 1);
        }
        due("the 511th call", x.at(0), 100000 + 450 % 60);
        due("the 512th call", x.undo(), 5);
    }
}
