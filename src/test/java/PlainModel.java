import java.util.ArrayList;
import java.util.Collections;
import java.util.HashSet;
import java.util.List;
import java.util.regex.Matcher;
import java.util.regex.Pattern;

/** What the document says, word for word and without a thought of speed: the runs are compared with it. */
final class PlainModel {
    static final int NO_SUCH = -1, BAD_VALUE = -2, BAD_TEXT = -3, TOO_MANY = -4, NOT_POSSIBLE = -5, NONE = -6;

    private static final String NUMBER = "(0|[1-9][0-9]?[0-9]?)";
    private static final String VALUE = "(-?" + NUMBER + ")";
    private static final String ORDER = "(put" + NUMBER + "=" + VALUE + "|cut" + NUMBER + "|set" + NUMBER + "=" + VALUE
        + "|turn" + NUMBER + "-" + NUMBER + "|add" + NUMBER + "-" + NUMBER + "=" + VALUE
        + "|move" + NUMBER + "-" + NUMBER + ">" + NUMBER + "|roll" + NUMBER + "-" + NUMBER + "=" + VALUE + ")";
    private static final Pattern TEXT = Pattern.compile(ORDER + "(;" + ORDER + ")*");

    private static final class Chunk {
        List<Integer> kept = new ArrayList<>();
        boolean turned = false;
        int sum = 0;

        List<Integer> inRow() {
            List<Integer> numbers = new ArrayList<>();
            for (int number : kept) {
                numbers.add(number + sum);
            }
            if (turned) {
                Collections.reverse(numbers);
            }
            return numbers;
        }

        Chunk copy() {
            Chunk other = new Chunk();
            other.kept.addAll(kept);
            other.turned = turned;
            other.sum = sum;
            return other;
        }
    }

    private static final class State {
        List<Chunk> chunks = new ArrayList<>();
        int work = 0;

        State copy() {
            State other = new State();
            for (Chunk chunk : chunks) {
                other.chunks.add(chunk.copy());
            }
            other.work = work;
            return other;
        }

        List<Integer> numbers() {
            List<Integer> numbers = new ArrayList<>();
            for (Chunk chunk : chunks) {
                numbers.addAll(chunk.inRow());
            }
            return numbers;
        }

        int length() {
            return numbers().size();
        }

        int root() {
            return Math.max(1, (int) Math.floor(Math.sqrt(length())));
        }

        void carryOut(Chunk chunk) {
            if (chunk.turned || chunk.sum != 0) {
                chunk.kept = chunk.inRow();
                chunk.turned = false;
                chunk.sum = 0;
                work += chunk.kept.size();
            }
        }

        void partBehind(int index, int howMany) {
            Chunk chunk = chunks.get(index);
            carryOut(chunk);
            Chunk second = new Chunk();
            second.kept.addAll(chunk.kept.subList(howMany, chunk.kept.size()));
            chunk.kept = new ArrayList<>(chunk.kept.subList(0, howMany));
            chunks.add(index + 1, second);
            work += second.kept.size();
        }

        void cut(int place) {
            int start = 0;
            for (int i = 0; i < chunks.size(); i++) {
                int size = chunks.get(i).kept.size();
                if (start < place && place < start + size) {
                    partBehind(i, place - start);
                    return;
                }
                start += size;
            }
        }

        /** The index of the chunk that begins at a place. */
        int beginning(int place) {
            int start = 0;
            for (int i = 0; i < chunks.size(); i++) {
                if (start == place) {
                    return i;
                }
                start += chunks.get(i).kept.size();
            }
            return chunks.size();
        }

        List<Chunk> cutOut(int from, int to) {
            cut(from);
            cut(to + 1);
            return chunks.subList(beginning(from), beginning(to + 1));
        }

        void move(int from, int to, int place) {
            List<Chunk> span = cutOut(from, to);
            List<Chunk> taken = new ArrayList<>(span);
            span.clear();
            cut(place);
            chunks.addAll(beginning(place), taken);
        }

        void even() {
            int root = root();
            for (int i = 0; i < chunks.size(); i++) {
                if (chunks.get(i).kept.size() > 2 * root) {
                    partBehind(i, root);
                }
            }
            int i = 0;
            while (i + 1 < chunks.size()) {
                Chunk one = chunks.get(i);
                Chunk next = chunks.get(i + 1);
                if (one.kept.size() + next.kept.size() <= root) {
                    carryOut(one);
                    carryOut(next);
                    work += next.kept.size();
                    one.kept.addAll(next.kept);
                    chunks.remove(i + 1);
                } else {
                    i++;
                }
            }
        }
    }

    private State state = new State();
    private final List<State> history = new ArrayList<>();
    private final State[] slots = new State[2];
    private String pad = "";
    private boolean inText = false;

    private void remember() {
        if (inText) {
            return;
        }
        history.add(state.copy());
        if (history.size() > 6) {
            history.remove(0);
        }
    }

    private boolean has(int place) {
        return 0 <= place && place < state.length();
    }

    private int spanError(int from, int to) {
        return !has(from) || !has(to) ? NO_SUCH : to < from ? BAD_VALUE : 0;
    }

    int putIn(int place, int value) {
        if (place < 0 || place > state.length()) return NO_SUCH;
        if (value < -999 || value > 999) return BAD_VALUE;
        if (state.length() == 60) return TOO_MANY;
        remember();
        state.cut(place);
        Chunk chunk = new Chunk();
        chunk.kept.add(value);
        state.chunks.add(state.beginning(place), chunk);
        state.work++;
        state.even();
        return state.length();
    }

    int takeOut(int place) {
        if (!has(place)) return NO_SUCH;
        remember();
        int number = state.numbers().get(place);
        state.cutOut(place, place).clear();
        state.even();
        return number + 100000;
    }

    int set(int place, int value) {
        if (!has(place)) return NO_SUCH;
        if (value < -999 || value > 999) return BAD_VALUE;
        remember();
        int number = state.numbers().get(place);
        int start = 0;
        for (Chunk chunk : state.chunks) {
            int size = chunk.kept.size();
            if (start <= place && place < start + size) {
                state.carryOut(chunk);
                chunk.kept.set(place - start, value);
            }
            start += size;
        }
        state.work++;
        state.even();
        return number + 100000;
    }

    int turn(int from, int to) {
        int error = spanError(from, to);
        if (error != 0) return error;
        remember();
        turnAndEven(state, from, to);
        return state.chunks.size();
    }

    private static void turnAndEven(State state, int from, int to) {
        List<Chunk> span = state.cutOut(from, to);
        Collections.reverse(span);
        for (Chunk chunk : span) {
            chunk.turned = !chunk.turned;
        }
        state.even();
    }

    int add(int from, int to, int by) {
        int error = spanError(from, to);
        if (error != 0) return error;
        if (by < -999 || by > 999) return BAD_VALUE;
        for (int number : state.numbers().subList(from, to + 1)) {
            if (Math.abs(number + by) > 99999) return NOT_POSSIBLE;
        }
        remember();
        for (Chunk chunk : state.cutOut(from, to)) {
            chunk.sum += by;
        }
        state.even();
        return state.chunks.size();
    }

    int move(int from, int to, int place) {
        int error = spanError(from, to);
        if (error != 0) return error;
        if (place < 0 || place > state.length() - (to - from + 1)) return BAD_VALUE;
        remember();
        state.move(from, to, place);
        state.even();
        return state.chunks.size();
    }

    int rotate(int from, int to, int by) {
        int error = spanError(from, to);
        if (error != 0) return error;
        if (by < -999 || by > 999) return BAD_VALUE;
        remember();
        int size = to - from + 1;
        int some = (by % size + size) % size;
        if (some > 0) {
            state.move(from, from + some - 1, from + size - some);
        }
        state.even();
        return state.chunks.size();
    }

    int at(int place) {
        return has(place) ? state.numbers().get(place) + 100000 : NO_SUCH;
    }

    int chunk(int chunk, int what) {
        if (chunk < 0 || chunk >= state.chunks.size()) return NO_SUCH;
        if (what < 0 || what > 4) return BAD_VALUE;
        int start = 0;
        for (Chunk one : state.chunks.subList(0, chunk)) {
            start += one.kept.size();
        }
        Chunk asked = state.chunks.get(chunk);
        int size = asked.kept.size();
        int[] answers = {size, start, asked.turned ? 1 : 0, asked.sum + 100000, asked.turned ? start + size - 1 : start};
        return answers[what];
    }

    int count(int what) {
        if (what < 0 || what > 8) return BAD_VALUE;
        int longest = 0;
        int turned = 0;
        int summed = 0;
        for (Chunk chunk : state.chunks) {
            longest = Math.max(longest, chunk.kept.size());
            turned += chunk.turned ? 1 : 0;
            summed += chunk.sum != 0 ? 1 : 0;
        }
        int[] answers = {state.length(), state.chunks.size(), state.root(), state.work, longest, turned, summed,
            pad.length(), history.size()};
        return answers[what];
    }

    int kth(int from, int to, int k) {
        int error = spanError(from, to);
        if (error != 0) return error;
        if (k < 0 || k > to - from) return BAD_VALUE;
        List<Integer> span = new ArrayList<>(state.numbers().subList(from, to + 1));
        Collections.sort(span);
        return span.get(k) + 100000;
    }

    int below(int from, int to, int value) {
        int error = spanError(from, to);
        if (error != 0) return error;
        if (value < -99999 || value > 99999) return BAD_VALUE;
        return (int) state.numbers().subList(from, to + 1).stream().filter(number -> number < value).count();
    }

    int sum(int from, int to) {
        int error = spanError(from, to);
        if (error != 0) return error;
        return state.numbers().subList(from, to + 1).stream().mapToInt(number -> number).sum() + 10000000;
    }

    int unlike(int from, int to) {
        int error = spanError(from, to);
        if (error != 0) return error;
        return new HashSet<>(state.numbers().subList(from, to + 1)).size();
    }

    int find(int from, int value) {
        if (!has(from)) return NO_SUCH;
        if (value < -99999 || value > 99999) return BAD_VALUE;
        int index = state.numbers().subList(from, state.length()).indexOf(value);
        return index < 0 ? NONE : from + index;
    }

    int costOfTurn(int from, int to) {
        int error = spanError(from, to);
        if (error != 0) return error;
        State other = state.copy();
        turnAndEven(other, from, to);
        return other.work - state.work;
    }

    int put(long characters) {
        StringBuilder text = new StringBuilder();
        for (long rest = characters; rest != 0; rest >>>= 8) {
            int code = (int) (rest & 255);
            if (code < 33 || code > 126) return BAD_VALUE;
            text.append((char) code);
        }
        if (text.length() == 0) return BAD_VALUE;
        if (pad.length() + text.length() > 80) return TOO_MANY;
        pad += text.reverse();
        return pad.length();
    }

    int wipe() {
        int had = pad.length();
        pad = "";
        return had;
    }

    int fault() {
        for (int end = 1; end <= pad.length(); end++) {
            Matcher matcher = TEXT.matcher(pad.substring(0, end));
            if (!matcher.matches() && !matcher.hitEnd()) return end - 1;
        }
        return TEXT.matcher(pad).matches() ? NONE : pad.length();
    }

    int carryOut() {
        if (fault() != NONE) return BAD_TEXT;
        remember();
        inText = true;
        int done = 0;
        for (String order : pad.split(";")) {
            if (carryOutOrder(order) < 0) break;
            done++;
        }
        inText = false;
        pad = "";
        return done;
    }

    private int carryOutOrder(String order) {
        String word = order.replaceAll("[^a-z].*", "");
        Matcher matcher = Pattern.compile("[a-z]+([0-9]+)([=-](-?[0-9]+))?([=>](-?[0-9]+))?").matcher(order);
        if (!matcher.matches()) throw new IllegalStateException(order);
        int a = Integer.parseInt(matcher.group(1));
        int b = matcher.group(3) == null ? 0 : Integer.parseInt(matcher.group(3));
        int c = matcher.group(5) == null ? 0 : Integer.parseInt(matcher.group(5));
        switch (word) {
            case "put": return putIn(a, b);
            case "cut": return takeOut(a);
            case "set": return set(a, b);
            case "turn": return turn(a, b);
            case "add": return add(a, b, c);
            case "move": return move(a, b, c);
            case "roll": return rotate(a, b, c);
            default: throw new IllegalStateException(order);
        }
    }

    int undo() {
        if (history.isEmpty()) return NOT_POSSIBLE;
        state = history.remove(history.size() - 1);
        return history.size();
    }

    int save(int slot) {
        if (slot != 0 && slot != 1) return BAD_VALUE;
        slots[slot] = state.copy();
        return state.length();
    }

    int restore(int slot) {
        if (slot != 0 && slot != 1) return BAD_VALUE;
        if (slots[slot] == null) return NOT_POSSIBLE;
        remember();
        state = slots[slot].copy();
        return state.length();
    }
}
