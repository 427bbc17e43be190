/**
 * The boundary cases of texts, a test for each sentence: the pad, the orders, the numbers, the fault, and what is
 * carried out. In a text with a fault "|" stands ahead of the character that can't stand there; it is not of the text.
 */
public final class TextsTest {
    private static final int BAD_VALUE = -2, BAD_TEXT = -3, TOO_MANY = -4, NONE = -6;
    private static final int LENGTH = 0, PAD = 7, UNDOS = 8;

    private static final Check CHECK = new Check();

    public static void main(String[] args) {
        padTakesEightyCharacters();
        putTakesOneToEight();
        putTakesCodes33To126();
        nothingStandsAboveEightBitsOfZero();
        lowestBitsAreTheLastCharacter();
        wipeAnswersTheLength();
        emptyTextIsTooShort();
        textThatEndsTooEarly();
        onlyTheWordsCanStand();
        numberHasNoLeadingZero();
        numberIsAtMost999();
        onlyAValueCanBeBelowZero();
        signsBetweenNumbers();
        ordersAreParted();
        firstFaultCounts();
        faultAtTheEndOfAFullPad();
        carryOutWithAFault();
        carryOutUpToTheFirstError();
        carryOutOfNoneIsAChange();
        carryOutOfAFullPad();
        eachWordIsItsMethod();
        valuesReachBothBounds();
        ordersSeeTheRowAsItIsThen();
        negativeNumbersAreNoErrors();
        CHECK.end();
    }

    private static void due(String call, long got, long want) {
        CHECK.due(call, got, want);
    }

    private static void drawn(String when, RootChunks x, String want) {
        CHECK.same(when, Rows.drawn(x), want);
    }

    private static RootChunks withText(String text) {
        RootChunks x = new RootChunks();
        Rows.write(x, text);
        due("length of " + text, x.count(PAD), text.length());
        return x;
    }

    private static void right(String... texts) {
        for (String text : texts) {
            due("fault of " + text, withText(text).fault(), NONE);
        }
    }

    private static void early(String... texts) {
        for (String text : texts) {
            due("fault of " + text, withText(text).fault(), text.length());
        }
    }

    private static void wrong(String... texts) {
        for (String text : texts) {
            due("fault of " + text, withText(text.replace("|", "")).fault(), text.indexOf('|'));
        }
    }

    private static void padTakesEightyCharacters() {
        RootChunks x = new RootChunks();
        for (int length = 1; length <= 80; length++) {
            due("one more", x.put('!' + length), length);
        }
        due("an 81st", x.put('!'), TOO_MANY);
        due("an 81st: still 80", x.count(PAD), 80);
        RootChunks y = withText("a".repeat(73));
        due("eight where seven have room", y.put(Rows.packed("abcdefgh")), TOO_MANY);
        due("eight where seven have room: none of them stays", y.count(PAD), 73);
        due("seven", y.put(Rows.packed("abcdefg")), 80);
        RootChunks z = withText("a".repeat(72));
        due("eight where eight have room", z.put(Rows.packed("abcdefgh")), 80);
        z.wipe();
        due("there is room again", z.put(Rows.packed("abcdefgh")), 8);
    }

    private static void putTakesOneToEight() {
        RootChunks x = new RootChunks();
        String all = "abcdefgh";
        int length = 0;
        for (int i = 1; i <= 8; i++) {
            length += i;
            due("put " + i, x.put(Rows.packed(all.substring(0, i))), length);
        }
        due("put none", x.put(0), BAD_VALUE);
        due("put none: the pad stays", x.count(PAD), length);
    }

    private static void putTakesCodes33To126() {
        RootChunks x = new RootChunks();
        for (int code = 1; code <= 255; code++) {
            boolean taken = code >= 33 && code <= 126;
            due("code " + code, x.put(code), taken ? 1 : BAD_VALUE);
            x.wipe();
            due("code " + code + " first of eight", x.put((long) code << 56 | Rows.packed("abcdefg")), taken ? 8 : BAD_VALUE);
            x.wipe();
            due("code " + code + " in the midst", x.put('a' << 16 | code << 8 | 'b'), taken ? 3 : BAD_VALUE);
            x.wipe();
        }
    }

    private static void nothingStandsAboveEightBitsOfZero() {
        RootChunks x = new RootChunks();
        String all = "abcdefg";
        for (int length = 0; length <= 7; length++) {
            long characters = Rows.packed(all.substring(0, length));
            for (int bit = 8 * length + 8; bit < 64; bit++) {
                due(length + " and bit " + bit, x.put(characters | 1L << bit), BAD_VALUE);
            }
            due(length + " and nothing above", x.put(characters), length == 0 ? BAD_VALUE : length);
            x.wipe();
        }
    }

    private static void lowestBitsAreTheLastCharacter() {
        RootChunks x = new RootChunks();
        due("p, u, t and 0", x.put(('p' << 24) + ('u' << 16) + ('t' << 8) + '0'), 4);
        due("= and 7", x.put(('=' << 8) + '7'), 6);
        due("put0=7", x.fault(), NONE);
        due("put0=7", x.carryOut(), 1);
        drawn("put0=7", x, "7 : 1");
    }

    private static void wipeAnswersTheLength() {
        RootChunks x = new RootChunks();
        due("wipe nothing", x.wipe(), 0);
        Rows.write(x, "a".repeat(80));
        due("wipe eighty", x.wipe(), 80);
        due("wipe again", x.wipe(), 0);
        due("wiped: no text", x.fault(), 0);
        Rows.write(x, "put0=1");
        due("wiped: what comes then is the text", x.carryOut(), 1);
    }

    private static void emptyTextIsTooShort() {
        RootChunks x = new RootChunks();
        due("no text", x.fault(), 0);
        due("no text is carried out", x.carryOut(), BAD_TEXT);
        due("no text: no change", x.count(UNDOS), 0);
    }

    private static void textThatEndsTooEarly() {
        String[] orders = {"put0=1", "cut0", "set0=1", "turn0-1", "add0-1=1", "move0-1>0", "roll0-1=1", "put0=-1",
            "set0=-1", "add0-1=-1", "roll0-1=-1"};
        for (String order : orders) {
            for (int end = 1; end < order.length(); end++) {
                early(order.substring(0, end), "cut0;" + order.substring(0, end));
            }
            right(order, "cut0;" + order);
            early(order + ";");
        }
    }

    private static void onlyTheWordsCanStand() {
        wrong("|b", "|x", "|Put0=1", "|PUT0=1", "|0", "|-", "|=", "|;", "|>", "|~", "|!", "|q", "|l");
        wrong("p|t", "pu|x", "pu|0", "put|s0=1", "p|Ut0=1", "pu|T0=1");
        wrong("c|t0", "cu|p0", "cut|t0", "s|t0", "se|x0", "set|t0", "t|x", "tu|t", "tur|m0-1", "turn|s0-1", "tu|0");
        wrong("a|t", "ad|x", "add|d0-1=1", "m|v", "mo|w", "mov|0-1>0", "move|r0-1>0", "r|l", "ro|t", "rol|0", "roll|l0");
        wrong("put|=", "cut|;", "set|-1=0", "turn|-1-2", "add|=", "move|>", "roll|-");
    }

    private static void numberHasNoLeadingZero() {
        right("cut0", "cut10", "cut100", "cut9", "cut90", "cut900", "put0=0", "put0=-0", "put0=10", "put0=-10", "put0=-100");
        wrong("cut0|0", "cut0|1", "cut0|9;", "put0|1=1", "put0=0|0", "put0=0|1", "put0=-0|0", "put0=-0|1", "set0|7=1");
        wrong("turn0|0-1", "turn0-0|1", "add0|1-1=1", "add0-0|1=1", "add0-1=0|1", "move0|1-1>1", "move0-0|1>1", "move0-1>0|1");
        wrong("roll0|1-1=1", "roll0-0|1=1", "roll0-1=-0|1");
    }

    private static void numberIsAtMost999() {
        right("cut999", "put999=999", "put999=-999", "turn999-999", "add999-999=-999", "move999-999>999", "roll999-999=999");
        wrong("cut999|0", "cut100|0", "cut999|9", "put100|0=1", "put0=100|0", "put0=-100|0", "put0=999|9", "set123|4=1");
        wrong("turn100|0-1", "turn0-100|0", "add0-1=100|0", "move0-1>100|0", "roll0-1=-100|0", "cut999|9;cut0",
            "cut123|45");
    }

    private static void onlyAValueCanBeBelowZero() {
        right("put0=-1", "set0=-1", "add0-1=-1", "roll0-1=-1");
        wrong("put|-1=1", "cut|-1", "set|-1=1", "turn|-1-1", "turn0-|-1", "add|-1-1=1", "add0-|-1=1", "move|-1-1>1",
            "move0-|-1>1", "move0-1>|-1", "roll|-1-1=1", "roll0-|-1=1");
        wrong("put0=-|-1", "put0=|+1", "put0=-|;", "put0=-|x", "put0=|;", "add0-1=-|-", "put0=1|-");
    }

    private static void signsBetweenNumbers() {
        wrong("put0|-1", "put0|>1", "put0|;", "cut0|=1", "cut0|-1", "set0|-1", "set0|;", "turn0|=1", "turn0|>1", "turn0|;",
            "turn0-1|=", "turn0-1|>", "turn0-1|-", "add0|=1", "add0-1|-1", "add0-1|>1", "add0-1|;", "add0-1=1|-", "move0|=1",
            "move0-1|=1", "move0-1|-1", "move0-1|;", "move0-1>1|>", "roll0|>1", "roll0-1|>1", "roll0-1|;", "roll0-1=1|=");
        wrong("put0=|=1", "turn0-|=", "move0-1>|>", "put|x", "put0|x", "put0=|x", "put0=1|x", "turn0-1|x");
    }

    private static void ordersAreParted() {
        right("cut0;cut1", "cut0;cut1;cut2", "put0=1;put0=-1", "turn0-1;move0-1>2;cut0");
        early("cut0;", "cut0;cut1;");
        wrong("|;cut0", "cut0;|;", "cut0;|;cut0", "cut0|,cut0", "cut0|:cut0", "cut0|cut0", "cut0;|0", "cut0;|-", "put0=1|put");
    }

    private static void firstFaultCounts() {
        wrong("cut0;|xut0;x", "cut|x;cut", "p|x;p", "cut0;c|x;c");
        RootChunks x = withText("cut0;x");
        due("a fault", x.fault(), 5);
        due("the fault again", x.fault(), 5);
        Rows.write(x, "y");
        due("what is put behind it leaves it", x.fault(), 5);
        RootChunks y = withText("cut");
        due("too early", y.fault(), 3);
        y.put('5');
        due("what was missing is put", y.fault(), NONE);
        y.put('5');
        due("one more digit", y.fault(), NONE);
        y.put('5');
        y.put('5');
        due("one digit too many", y.fault(), 6);
    }

    private static void faultAtTheEndOfAFullPad() {
        String most = "cut0;".repeat(15);
        right(most + "cut99", most + "cut10");
        early(most + "cut0;", most + "put0=");
        wrong(most + "cut0|0", most + "cut0|x", most + "cut|-1", most + "|xxxxx");
        right("put0=-999;".repeat(7) + "put0=-999");
    }

    private static void carryOutWithAFault() {
        String[] texts = {"x", "put0=1;", "put0=1;x", "put0=1;put0", "put0=00", "put0=1000", "put0=1!;cut0"};
        for (String text : texts) {
            RootChunks x = Rows.of(2);
            Rows.write(x, text);
            due("carryOut " + text, x.carryOut(), BAD_TEXT);
            due("the pad stays: " + text, x.count(PAD), text.length());
            due("no change: " + text, x.count(UNDOS), 2);
            drawn("no order ahead of the fault is carried out: " + text, x, "0 | 1 : 2");
        }
    }

    private static void carryOutUpToTheFirstError() {
        RootChunks x = Rows.of(2);
        Rows.write(x, "set0=5;cut2;set1=6");
        due("the first one", x.carryOut(), 1);
        drawn("the first one, but none behind the error", x, "5 | 1 : 3");
        due("the pad is empty", x.count(PAD), 0);
        due("a change", x.count(UNDOS), 3);
        Rows.write(x, "set0=7;set1=8;turn1-0");
        due("all but the last", x.carryOut(), 2);
        drawn("all but the last", x, "7 | 8 : 5");
        Rows.write(x, "set0=1;set1=2");
        due("all", x.carryOut(), 2);
        drawn("all", x, "1 | 2 : 7");
    }

    private static void carryOutOfNoneIsAChange() {
        RootChunks x = Rows.of(2);
        Rows.write(x, "cut2;cut0");
        due("none", x.carryOut(), 0);
        drawn("none", x, "0 | 1 : 2");
        due("none: the pad is empty", x.count(PAD), 0);
        due("none: a change", x.count(UNDOS), 3);
        due("none: undone", x.undo(), 2);
        drawn("none: undone", x, "0 | 1 : 2");
    }

    private static void carryOutOfAFullPad() {
        RootChunks x = new RootChunks();
        Rows.write(x, "put0=1;".repeat(10) + "put10=-999");
        due("eighty characters", x.count(PAD), 80);
        due("eleven orders", x.carryOut(), 11);
        due("eleven orders: length", x.count(LENGTH), 11);
        due("eleven orders: the last", x.at(10), 100000 - 999);
        Rows.write(x, "cut0;".repeat(10) + "cut0");
        due("eleven cuts", x.carryOut(), 11);
        due("eleven cuts: none left", x.count(LENGTH), 0);
        for (int i = 0; i < 60; i++) {
            x.putIn(i, i);
        }
        Rows.write(x, "cut0;".repeat(15) + "cut44");
        due("sixteen orders", x.carryOut(), 16);
        due("sixteen orders: length", x.count(LENGTH), 44);
        due("sixteen orders: the last one is taken out", x.at(43), 100058);
        due("sixteen orders: one change", x.undo(), 5);
        due("sixteen orders: one change", x.count(LENGTH), 60);
    }

    private static void eachWordIsItsMethod() {
        String[] orders = {"put3=-5", "cut3", "set3=-5", "turn1-5", "add1-5=-5", "move1-3>5", "roll1-5=-5", "roll1-5=2"};
        for (int i = 0; i < orders.length; i++) {
            RootChunks x = Rows.of(9);
            RootChunks y = Rows.of(9);
            x.turn(0, 8);
            y.turn(0, 8);
            Rows.write(x, orders[i]);
            due(orders[i], x.carryOut(), 1);
            switch (i) {
                case 0: y.putIn(3, -5); break;
                case 1: y.takeOut(3); break;
                case 2: y.set(3, -5); break;
                case 3: y.turn(1, 5); break;
                case 4: y.add(1, 5, -5); break;
                case 5: y.move(1, 3, 5); break;
                case 6: y.rotate(1, 5, -5); break;
                default: y.rotate(1, 5, 2); break;
            }
            CHECK.same(orders[i], Rows.emptied(x), Rows.emptied(y));
        }
    }

    private static void valuesReachBothBounds() {
        RootChunks x = new RootChunks();
        Rows.write(x, "put0=999;put1=-999;put2=-0;set2=-1;add0-0=999;add1-1=-999");
        due("values", x.carryOut(), 6);
        drawn("values", x, "1998 +999 | -1998 -999 | -1 : 4");
        Rows.write(x, "add1-2=-0;roll0-2=-999;roll0-2=999;roll0-2=-1");
        due("rotations", x.carryOut(), 4);
        drawn("rotations", x, "-1 | 1998 +999 | -1998 -999 : 4");
    }

    private static void ordersSeeTheRowAsItIsThen() {
        RootChunks x = new RootChunks();
        Rows.write(x, "put0=1;put1=2;move0-0>1;cut0;set0=3");
        due("each order finds what those ahead of it left", x.carryOut(), 5);
        drawn("each order finds what those ahead of it left", x, "3 : 3");
        Rows.write(x, "cut0;cut0;put0=1");
        due("no number is left for the second one", x.carryOut(), 1);
        drawn("no number is left for the second one", x, ": 3");
        x = Rows.of(59);
        Rows.write(x, "put59=1;put60=2;put0=3");
        due("there is room for one", x.carryOut(), 1);
        due("there is room for one", x.count(LENGTH), 60);
        x = Rows.with(0);
        for (int i = 0; i < 100; i++) {
            x.add(0, 0, 999);
        }
        Rows.write(x, "add0-0=99;add0-0=1;set0=0");
        due("above the greatest number", x.carryOut(), 1);
        drawn("above the greatest number", x, "99999 +99999 : 1");
    }

    private static void negativeNumbersAreNoErrors() {
        RootChunks x = Rows.with(-999, -999);
        for (int i = 0; i < 99; i++) {
            x.add(0, 1, -999);
        }
        x.add(0, 1, -99);
        Rows.write(x, "set0=-999;cut1;cut0");
        due("-99999 is set and taken out", x.carryOut(), 3);
        due("-99999 is set and taken out", x.count(LENGTH), 0);
    }
}
