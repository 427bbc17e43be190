import java.util.Random;

/** Runs of calls with fixed seeds; behind each call the whole object is compared with the plain model. */
public final class ModelTest {
    private static final int RUNS = 300;
    private static final int CALLS = 512;
    private static final String[] SCRAPS = {"put", "cut", "set", "turn", "add", "move", "roll", "0", "1", "12", "999",
        "1000", "00", "01", "-", "=", ">", ";", "-0", "x", "P", "~", "pu", "tur", "3-5", "0=7", "cut0", ";;", "!"};

    private static final Check CHECK = new Check();

    private Random random;
    private Pair pair;
    private RootChunks program;
    private PlainModel model;
    private String called;
    private int favoured;

    public static void main(String[] args) {
        for (int seed = 1; seed <= RUNS && CHECK.wrong() == 0; seed++) {
            new ModelTest().run(seed);
        }
        CHECK.end();
    }

    private void run(int seed) {
        random = new Random(seed);
        pair = new Pair(CHECK);
        program = pair.program;
        model = pair.model;
        favoured = seed % 8;
        for (int call = 0; call < CALLS && CHECK.wrong() == 0; call++) {
            int before = CHECK.wrong();
            callOne(call);
            pair.compareAll("behind " + called + ": ");
            if (CHECK.wrong() > before) {
                System.out.println("seed " + seed + ", call " + call + ": behind " + called);
            }
        }
    }

    private void due(String call, int got, int want) {
        called = call;
        CHECK.due(call, got, want);
    }

    private void callOne(int call) {
        if (favoured >= 4 && call < 40) {
            callPutIn();
            return;
        }
        switch (random.nextInt(30)) {
            case 0: case 1: case 2: callPutIn(); break;
            case 3: case 4: callTakeOut(); break;
            case 5: callSet(); break;
            case 6: case 7: case 8: callSpan(random.nextInt(4)); break;
            case 9: case 10: case 11: case 12: case 13: case 14: callSpan(random.nextInt(4)); break;
            case 15: case 16: callQuestion(); break;
            case 17: case 18: case 19: case 20: callText(); break;
            case 21: due("carryOut()", program.carryOut(), model.carryOut()); break;
            case 22: due("undo()", program.undo(), model.undo()); break;
            case 23: callSlot(); break;
            case 24: callOdd(); break;
            default: callFavoured(); break;
        }
    }

    private void callFavoured() {
        switch (favoured % 4) {
            case 0: callPutIn(); break;
            case 1: callSpan(0); break;
            case 2: callSpan(1); break;
            default: callQuestion(); break;
        }
    }

    private void callPutIn() {
        int place = place(1);
        int value = value();
        due("putIn(" + place + ", " + value + ")", program.putIn(place, value), model.putIn(place, value));
    }

    private void callTakeOut() {
        int place = place(0);
        due("takeOut(" + place + ")", program.takeOut(place), model.takeOut(place));
    }

    private void callSet() {
        int place = place(0);
        int value = value();
        due("set(" + place + ", " + value + ")", program.set(place, value), model.set(place, value));
    }

    private void callSpan(int which) {
        int from = place(0);
        int to = random.nextInt(3) == 0 ? place(0) : from + random.nextInt(Math.max(1, model.count(0) - from + 1));
        int by = value();
        String rest = "(" + from + ", " + to + ", " + by + ")";
        switch (which) {
            case 0:
                CHECK.due("costOfTurn" + rest, program.costOfTurn(from, to), model.costOfTurn(from, to));
                due("turn" + rest, program.turn(from, to), model.turn(from, to));
                break;
            case 1:
                due("add" + rest, program.add(from, to, by), model.add(from, to, by));
                break;
            case 2:
                by = place(1) - random.nextInt(3);
                due("move(" + from + ", " + to + ", " + by + ")", program.move(from, to, by), model.move(from, to, by));
                break;
            default:
                due("rotate" + rest, program.rotate(from, to, by), model.rotate(from, to, by));
                break;
        }
    }

    private void callQuestion() {
        int from = place(0);
        int to = random.nextInt(3) == 0 ? place(0) : from + random.nextInt(Math.max(1, model.count(0) - from + 1));
        int some = model.at(from) < 0 || random.nextInt(4) == 0 ? value() : model.at(place(0)) - 100000;
        String rest = "(" + from + ", " + to + ", " + some + ")";
        due("below" + rest, program.below(from, to, some), model.below(from, to, some));
        due("find" + rest, program.find(from, some), model.find(from, some));
        due("sum" + rest, program.sum(from, to), model.sum(from, to));
        due("unlike" + rest, program.unlike(from, to), model.unlike(from, to));
        due("costOfTurn" + rest, program.costOfTurn(from, to), model.costOfTurn(from, to));
        int k = random.nextInt(Math.max(1, to - from + 3)) - 1;
        due("kth(" + from + ", " + to + ", " + k + ")", program.kth(from, to, k), model.kth(from, to, k));
    }

    private void callText() {
        if (random.nextInt(12) == 0) {
            due("wipe()", program.wipe(), model.wipe());
        }
        if (random.nextInt(12) == 0) {
            long number = random.nextLong() >>> random.nextInt(64);
            due("put(" + number + ")", program.put(number), model.put(number));
            return;
        }
        if (random.nextInt(2) == 0 && model.count(7) > 0) {
            write(";");
        }
        if (random.nextInt(5) == 0) {
            write(SCRAPS[random.nextInt(SCRAPS.length)]);
        } else {
            write(order());
        }
        if (random.nextInt(3) == 0) {
            due("carryOut()", program.carryOut(), model.carryOut());
        }
    }

    private void write(String text) {
        for (int i = 0; i < text.length(); i += 8) {
            String part = text.substring(i, Math.min(text.length(), i + 8));
            due("put " + part, program.put(Rows.packed(part)), model.put(Rows.packed(part)));
        }
    }

    private String order() {
        int a = Math.max(0, place(1));
        int b = a + random.nextInt(6);
        int value = value() % 1000;
        switch (random.nextInt(7)) {
            case 0: return "put" + a + "=" + value;
            case 1: return "cut" + a;
            case 2: return "set" + a + "=" + value;
            case 3: return "turn" + a + "-" + b;
            case 4: return "add" + a + "-" + b + "=" + value;
            case 5: return "move" + a + "-" + b + ">" + Math.max(0, place(0));
            default: return "roll" + a + "-" + b + "=" + value;
        }
    }

    private void callSlot() {
        int slot = random.nextInt(8) == 0 ? odd() : random.nextInt(2);
        if (random.nextInt(2) == 0) {
            due("save(" + slot + ")", program.save(slot), model.save(slot));
        } else {
            due("restore(" + slot + ")", program.restore(slot), model.restore(slot));
        }
    }

    private void callOdd() {
        int a = odd();
        int b = odd();
        due("chunk(" + a + ", " + b + ")", program.chunk(a, b), model.chunk(a, b));
        due("chunk(0, " + b + ")", program.chunk(0, b), model.chunk(0, b));
        due("count(" + a + ")", program.count(a), model.count(a));
        due("at(" + a + ")", program.at(a), model.at(a));
        due("kth(0, 0, " + a + ")", program.kth(0, 0, a), model.kth(0, 0, a));
        due("find(0, " + a + ")", program.find(0, a), model.find(0, a));
        due("below(0, 0, " + a + ")", program.below(0, 0, a), model.below(0, 0, a));
        due("sum(" + a + ", " + b + ")", program.sum(a, b), model.sum(a, b));
        due("move(0, 0, " + a + ")", program.move(0, 0, a), model.move(0, 0, a));
        due("rotate(0, 0, " + a + ")", program.rotate(0, 0, a), model.rotate(0, 0, a));
        due("add(0, 0, " + a + ")", program.add(0, 0, a), model.add(0, 0, a));
    }

    /** A place of the row most often, now and then one beside it or a far one. */
    private int place(int more) {
        return random.nextInt(20) == 0 ? odd() : random.nextInt(Math.max(1, model.count(0) + more));
    }

    private int value() {
        switch (random.nextInt(8)) {
            case 0: return odd();
            case 1: case 2: return random.nextInt(1999) - 999;
            case 3: return favoured == 2 ? 999 : favoured == 6 ? -999 : 0;
            default: return random.nextInt(9) - 4;
        }
    }

    private int odd() {
        int[] odd = {-1, -2, 0, 1, 2, 8, 9, 59, 60, 61, 999, 1000, -999, -1000, 99999, 100000, -99999, -100000,
            Integer.MAX_VALUE, Integer.MIN_VALUE, model.count(0), model.count(0) - 1, model.count(1), model.count(0) + 1};
        return odd[random.nextInt(odd.length)];
    }
}
