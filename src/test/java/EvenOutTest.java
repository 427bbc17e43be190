/**
 * "Behind each of these changes (also if nothing is done) the chunks are evened out, with the root as it is then": a
 * test for each sentence and each boundary in it. A row is drawn as Rows.drawn() tells; the work stands behind ":".
 * That the second part of a parted chunk "is looked at next" can't be seen: it is never longer than twice the root,
 * as a change makes the root smaller by 1 at most.
 */
public final class EvenOutTest {
    private static final int ROOT = 2, LONGEST = 4;

    private static final Check CHECK = new Check();

    public static void main(String[] args) {
        exactlyTwiceTheRootStays();
        longerThanTwiceTheRootIsParted();
        whatWaitsIsCarriedOutAheadOfParting();
        eachLongChunkIsParted();
        noMoreThanTheRootIsJoined();
        moreThanTheRootStaysApart();
        joinedFromTheFirstOn();
        joinedChunkIsLookedAtAgain();
        bothAreCarriedOutAheadOfJoining();
        otherChunksAreNotCarriedOut();
        rootAsItIsThen();
        behindEachChange();
        behindEachOrderOfAText();
        evenChunksStay();
        CHECK.end();
    }

    private static void due(String call, long got, long want) {
        CHECK.due(call, got, want);
    }

    private static void drawn(String when, RootChunks x, String want) {
        CHECK.same(when, Rows.drawn(x), want);
    }

    /** Of nine numbers the first ones are taken out: 6 7 8 is the last chunk, and is as long as the root until then. */
    private static RootChunks lastOfNine(int left, boolean turned) {
        RootChunks x = Rows.of(9);
        if (turned) {
            x.turn(6, 8);
        }
        for (int length = 9; length > left; length--) {
            x.takeOut(0);
        }
        return x;
    }

    private static void exactlyTwiceTheRootStays() {
        RootChunks x = Rows.of(4);
        x.takeOut(3);
        due("the root", x.count(ROOT), 1);
        drawn("2 where the root is 1", x, "0 1 | 2 : 7");
        x = lastOfNine(4, false);
        due("the root", x.count(ROOT), 2);
        drawn("3 where the root is 2", x, "5 | 6 7 8 : 17");
        x = sixteen();
        due("the root", x.count(ROOT), 4);
        due("7 where the root is 4", x.count(LONGEST), 7);
        RootChunks six = sixWhereTheRootIsThree();
        due("the root", six.count(ROOT), 3);
        due("6, which is twice the root", six.count(LONGEST), 6);
    }

    /** The last chunk of 36, of six numbers, is left while the others are taken out ahead of it. */
    private static RootChunks sixWhereTheRootIsThree() {
        RootChunks x = Rows.of(36);
        for (int length = 36; length > 9; length--) {
            x.takeOut(0);
        }
        return x;
    }

    private static void longerThanTwiceTheRootIsParted() {
        RootChunks x = lastOfNine(3, false);
        drawn("3 where the root falls to 1: behind 1, at the cost of 2", x, "6 | 7 8 : 19");
        RootChunks six = sixWhereTheRootIsThree();
        String before = Rows.drawn(six);
        int work = six.count(3);
        CHECK.same("nine with six in the last chunk", before, "27 28 29 | 30 31 32 33 34 35 : " + work);
        six.takeOut(0);
        drawn("6 where the root falls to 2: behind 2, at the cost of 4", six,
            "28 29 | 30 31 | 32 33 34 35 : " + (work + 2 + 4));
    }

    private static void whatWaitsIsCarriedOutAheadOfParting() {
        drawn("a turn is carried out, at the cost of 3, ahead of that", lastOfNine(3, true), "8 | 7 6 : 22");
        RootChunks x = lastOfNine(4, false);
        x.add(1, 3, 10);
        drawn("a sum waits in 3", x, "5 | 16 17 18 +10 : 17");
        x.takeOut(0);
        drawn("a sum is carried out ahead of that", x, "16 | 17 18 : 22");
    }

    /** 16 numbers with 7 in each of two chunks, which only a root of 7 could join. */
    private static RootChunks sixteen() {
        RootChunks x = Rows.of(49);
        for (int i = 0; i < 7; i++) {
            x.takeOut(0);
        }
        for (int i = 0; i < 26; i++) {
            x.takeOut(9);
        }
        return x;
    }

    private static void eachLongChunkIsParted() {
        RootChunks x = sixteen();
        int work = x.count(3);
        drawn("sixteen", x, "7 8 | 9 10 11 12 13 14 15 | 42 43 44 45 46 47 48 : " + work);
        x.takeOut(0);
        drawn("7 and 7 where the root falls to 3", x,
            "8 | 9 10 11 | 12 13 14 15 | 42 43 44 | 45 46 47 48 : " + (work + 1 + 4 + 4));
        RootChunks waiting = sixteen();
        waiting.turn(9, 15);
        waiting.takeOut(0);
        drawn("only where something waits it is carried out", waiting,
            "8 | 9 10 11 | 12 13 14 15 | 48 47 46 | 45 44 43 42 : " + (work + 1 + 4 + 7 + 4));
    }

    private static void noMoreThanTheRootIsJoined() {
        RootChunks x = Rows.of(3);
        drawn("1 and 1 where the root is 1", x, "0 | 1 | 2 : 3");
        x.putIn(3, 3);
        drawn("1 and 1 where the root is 2: each at the cost of 1", x, "0 1 | 2 3 : 6");
        RootChunks nine = Rows.of(8);
        drawn("2 and 2 where the root is 2", nine, "0 1 | 2 3 | 4 5 | 6 7 : 12");
        nine.putIn(8, 8);
        drawn("2 and 1 where the root is 3: at the cost of the second one", nine, "0 1 | 2 3 | 4 5 | 6 7 8 : 14");
        RootChunks front = Rows.of(8);
        front.putIn(0, 8);
        drawn("1 and 2 where the root is 3: at the cost of the second one", front, "8 0 1 | 2 3 | 4 5 | 6 7 : 15");
    }

    private static void moreThanTheRootStaysApart() {
        drawn("2 and 1 where the root is 2", Rows.of(5), "0 1 | 2 3 | 4 : 7");
        drawn("2 and 2 where the root is 3", Rows.of(9), "0 1 | 2 3 | 4 5 | 6 7 8 : 14");
        RootChunks x = Rows.of(1);
        x.putIn(1, 1);
        drawn("1 and 1 where the root is 1", x, "0 | 1 : 2");
    }

    private static void joinedFromTheFirstOn() {
        RootChunks x = Rows.of(4);
        x.putIn(1, 9);
        drawn("1 1 1 2 where the root is 2: the first two", x, "0 9 | 1 | 2 3 : 9");
        RootChunks later = Rows.of(4);
        later.putIn(3, 9);
        drawn("2 1 1 1 where the root is 2: otherwise the next one is looked at", later, "0 1 | 2 9 | 3 : 9");
    }

    private static void joinedChunkIsLookedAtAgain() {
        RootChunks x = new RootChunks();
        for (int i = 0; i < 9; i++) {
            x.putIn(0, i);
        }
        drawn("three in the first chunk", x, "8 7 6 | 5 4 | 3 2 | 1 0 : 15");
        x.turn(1, 1);
        drawn("cut at 2 and 1; 1 and 1, then 2 and 1 are joined", x, "8 7 6 | 5 4 | 3 2 | 1 0 : 21");
        RootChunks last = Rows.of(9);
        last.putIn(9, 9);
        drawn("not with the next but one", last, "0 1 | 2 3 | 4 5 | 6 7 8 | 9 : 15");
    }

    private static void bothAreCarriedOutAheadOfJoining() {
        RootChunks first = Rows.of(3);
        first.add(0, 0, 7);
        first.putIn(3, 3);
        drawn("the first one is carried out", first, "7 1 | 2 3 : 7");
        RootChunks second = Rows.of(3);
        second.turn(1, 1);
        second.putIn(3, 3);
        drawn("the second one is carried out", second, "0 1 | 2 3 : 7");
        RootChunks both = Rows.of(3);
        both.turn(0, 1);
        both.add(1, 1, 4);
        drawn("in both something waits", both, "1 t | 4 t +4 | 2 : 3");
        both.putIn(3, 3);
        drawn("both are carried out", both, "1 4 | 2 3 : 8");
        RootChunks longer = Rows.of(8);
        longer.turn(0, 1);
        longer.putIn(0, 9);
        drawn("the second one, of two numbers, is carried out: 1, 2 and 2", longer, "9 1 0 | 2 3 | 4 5 | 6 7 : 17");
    }

    private static void otherChunksAreNotCarriedOut() {
        RootChunks x = Rows.of(8);
        x.turn(0, 5);
        x.add(0, 5, 1);
        x.putIn(8, 8);
        drawn("what is not joined waits on", x, "6 5 t +1 | 4 3 t +1 | 2 1 t +1 | 6 7 8 : 14");
    }

    private static void rootAsItIsThen() {
        RootChunks x = Rows.of(9);
        x.takeOut(1);
        drawn("1 and 2 are not joined where the root falls to 2", x, "0 | 2 3 | 4 5 | 6 7 8 : 15");
        RootChunks y = Rows.of(8);
        y.putIn(1, 9);
        drawn("1 1 1 2 where the root rises to 3: the first three", y, "0 9 1 | 2 3 | 4 5 | 6 7 : 16");
        y.takeOut(1);
        drawn("1 and 1 where the root falls to 2", y, "0 1 | 2 3 | 4 5 | 6 7 : 20");
    }

    /** One number of a chunk of three is cut off ahead of it, so that 1 comes beside 2. */
    private static void behindEachChange() {
        RootChunks x = Rows.of(9);
        x.turn(6, 6);
        drawn("turn: cut at 2; 2 and 1 are joined", x, "0 1 | 2 3 | 4 5 6 | 7 8 : 18");
        x = Rows.of(9);
        x.add(6, 6, 5);
        drawn("add: cut at 2; 2 and 1 are joined", x, "0 1 | 2 3 | 4 5 11 | 7 8 : 18");
        x = Rows.of(9);
        x.move(6, 6, 4);
        drawn("move: cut at 2; 2 and 1 are joined", x, "0 1 | 2 3 6 | 4 5 | 7 8 : 17");
        x = Rows.of(9);
        x.rotate(6, 8, 1);
        drawn("rotate: cut at 2; nothing to be joined but 2 and 1", x, "0 1 | 2 3 | 4 5 | 7 8 6 : 17");
        x = Rows.of(9);
        x.set(6, 5);
        drawn("set: nothing is cut, so that nothing is joined", x, "0 1 | 2 3 | 4 5 | 5 7 8 : 15");
        x = Rows.of(9);
        due("costOfTurn: with the joins", x.costOfTurn(6, 6), 4);
    }

    private static void behindEachOrderOfAText() {
        RootChunks x = Rows.of(3);
        Rows.write(x, "put3=3;cut3;put3=3");
        due("three orders", x.carryOut(), 3);
        drawn("evened out behind each: 6, then cut at 1, then 1 put in and joined", x, "0 1 | 2 3 : 9");
    }

    private static void evenChunksStay() {
        RootChunks x = Rows.of(4);
        x.takeOut(3);
        x.takeOut(2);
        drawn("2 where the root is 1", x, "0 1 : 7");
        x.rotate(0, 1, 2);
        x.move(0, 1, 0);
        x.turn(0, 1);
        x.save(0);
        x.restore(0);
        drawn("2 where the root is 1, behind changes that cut nothing", x, "1 0 t : 7");
    }
}
