/**
 * A row of up to 60 numbers that is kept in chunks of near the square root of its length.
 * A turn or a sum waits in a chunk until the chunk has to be touched; the work counts what was touched.
 */
public final class RootChunks {
    public static final int NO_SUCH = -1, BAD_VALUE = -2, BAD_TEXT = -3, TOO_MANY = -4, NOT_POSSIBLE = -5, NONE = -6;

    private static final int FINE = 0;
    private static final int MOST_NUMBERS = 60;
    private static final int GREATEST_GIVEN = 999;
    private static final int GREATEST_NUMBER = 99999;
    private static final int PAD_ROOM = 80;
    private static final int HISTORY_ROOM = 6;
    private static final int SLOTS = 2;
    private static final int CHARACTERS_AT_ONCE = 8;
    // Numbers and sums may be negative; these keep their answers apart from the error codes.
    private static final int NUMBER_OFFSET = 100000;
    private static final int SUM_OFFSET = 10000000;

    // An order is told by the first letter of its word: no two words share it.
    private static final char PUT = 'p', CUT = 'c', SET = 's', TURN = 't', ADD = 'a', MOVE = 'm', ROLL = 'r';

    private final Row row = new Row();
    private final Row trial = new Row();
    private final Row[] history = makeRows(HISTORY_ROOM);
    private int undoable = 0;
    private final Row[] slots = makeRows(SLOTS);
    private final boolean[] slotUsed = new boolean[SLOTS];
    private final Pad pad = new Pad();
    private final int[] standing = new int[MOST_NUMBERS];

    public RootChunks() {
    }

    // ---- changes

    public int putIn(int place, int value) {
        return change(PUT, place, value, 0);
    }

    public int takeOut(int place) {
        return change(CUT, place, 0, 0);
    }

    public int set(int place, int value) {
        return change(SET, place, value, 0);
    }

    public int turn(int from, int to) {
        return change(TURN, from, to, 0);
    }

    public int add(int from, int to, int by) {
        return change(ADD, from, to, by);
    }

    public int move(int from, int to, int place) {
        return change(MOVE, from, to, place);
    }

    public int rotate(int from, int to, int by) {
        return change(ROLL, from, to, by);
    }

    // ---- what there is

    public int at(int place) {
        if (!row.has(place)) {
            return NO_SUCH;
        }
        return row.numberAt(place) + NUMBER_OFFSET;
    }

    public int chunk(int chunk, int what) {
        if (chunk < 0 || chunk >= row.chunks) {
            return NO_SUCH;
        }
        switch (what) {
            case 0:
                return row.lengths[chunk];
            case 1:
                return row.startOf(chunk);
            case 2:
                return row.turns[chunk];
            case 3:
                return row.sums[chunk] + NUMBER_OFFSET;
            case 4:
                return row.startOf(chunk) + (row.turns[chunk] == 1 ? row.lengths[chunk] - 1 : 0);
            default:
                return BAD_VALUE;
        }
    }

    public int count(int what) {
        switch (what) {
            case 0:
                return row.length;
            case 1:
                return row.chunks;
            case 2:
                return row.rootOfLength();
            case 3:
                return row.work;
            case 4:
                return row.longestChunk();
            case 5:
                return row.waitingTurns();
            case 6:
                return row.waitingSums();
            case 7:
                return pad.length;
            case 8:
                return undoable;
            default:
                return BAD_VALUE;
        }
    }

    // ---- questions; nothing changes

    public int kth(int from, int to, int k) {
        int error = spanError(from, to);
        if (error != FINE) {
            return error;
        }
        if (k < 0 || k > to - from) {
            return BAD_VALUE;
        }
        row.layOut(standing);
        for (int place = from; place < to; place++) {
            int number = standing[place];
            if (countBelow(from, to, number) <= k && countBelow(from, to, number + 1) > k) {
                return number + NUMBER_OFFSET;
            }
        }
        // Some number of the span is the k-th one: if no other is, the last one is.
        return standing[to] + NUMBER_OFFSET;
    }

    public int below(int from, int to, int value) {
        int error = spanError(from, to);
        if (error != FINE) {
            return error;
        }
        if (outside(value, GREATEST_NUMBER)) {
            return BAD_VALUE;
        }
        row.layOut(standing);
        return countBelow(from, to, value);
    }

    public int sum(int from, int to) {
        int error = spanError(from, to);
        if (error != FINE) {
            return error;
        }
        row.layOut(standing);
        int total = SUM_OFFSET;
        for (int place = from; place <= to; place++) {
            total += standing[place];
        }
        return total;
    }

    public int unlike(int from, int to) {
        int error = spanError(from, to);
        if (error != FINE) {
            return error;
        }
        row.layOut(standing);
        int unlike = 0;
        for (int place = from; place <= to; place++) {
            if (firstPlaceOf(standing[place], from, place) == NONE) {
                unlike++;
            }
        }
        return unlike;
    }

    public int find(int from, int value) {
        if (!row.has(from)) {
            return NO_SUCH;
        }
        if (outside(value, GREATEST_NUMBER)) {
            return BAD_VALUE;
        }
        row.layOut(standing);
        return firstPlaceOf(value, from, row.length);
    }

    public int costOfTurn(int from, int to) {
        int error = spanError(from, to);
        if (error != FINE) {
            return error;
        }
        trial.copyFrom(row);
        trial.turnSpan(from, to);
        trial.evenOut();
        return trial.work - row.work;
    }

    // ---- texts

    public int put(long characters) {
        int given = countCharacters(characters);
        if (given == 0) {
            return BAD_VALUE;
        }
        if (given > PAD_ROOM - pad.length) {
            return TOO_MANY;
        }
        for (int i = given - 1; i >= 0; i--) {
            pad.append((char) codeOf(characters, i));
        }
        return pad.length;
    }

    public int wipe() {
        int had = pad.length;
        pad.length = 0;
        return had;
    }

    public int fault() {
        return pad.firstFault();
    }

    public int carryOut() {
        if (pad.firstFault() != NONE) {
            return BAD_TEXT;
        }
        remember();
        int done = 0;
        pad.position = 0;
        for (int orders = 0; orders < PAD_ROOM && pad.readOrder(); orders++) {
            if (errorOf(pad.kind, pad.given[0], pad.given[1], pad.given[2]) != FINE) {
                break;
            }
            apply(pad.kind, pad.given[0], pad.given[1], pad.given[2]);
            done++;
            if (!pad.skip(';')) {
                break;
            }
        }
        pad.length = 0;
        return done;
    }

    // ---- undo, saving

    public int undo() {
        if (undoable == 0) {
            return NOT_POSSIBLE;
        }
        undoable--;
        row.copyFrom(history[undoable]);
        return undoable;
    }

    public int save(int slot) {
        if (slot < 0 || slot >= SLOTS) {
            return BAD_VALUE;
        }
        slots[slot].copyFrom(row);
        slotUsed[slot] = true;
        return row.length;
    }

    public int restore(int slot) {
        if (slot < 0 || slot >= SLOTS) {
            return BAD_VALUE;
        }
        if (!slotUsed[slot]) {
            return NOT_POSSIBLE;
        }
        remember();
        row.copyFrom(slots[slot]);
        return row.length;
    }

    // ---- how changes are made

    private int change(char kind, int first, int second, int third) {
        int error = errorOf(kind, first, second, third);
        if (error != FINE) {
            return error;
        }
        remember();
        return apply(kind, first, second, third);
    }

    /** The error of a change, or FINE. The arguments are those of the change's method, in its order. */
    private int errorOf(char kind, int first, int second, int third) {
        switch (kind) {
            case PUT:
                return putError(first, second);
            case CUT:
                return row.has(first) ? FINE : NO_SUCH;
            case SET:
                return !row.has(first) ? NO_SUCH : outside(second, GREATEST_GIVEN) ? BAD_VALUE : FINE;
            case ADD:
                return addError(first, second, third);
            case MOVE:
                return moveError(first, second, third);
            case ROLL:
                return rollError(first, second, third);
            default:
                return spanError(first, second);
        }
    }

    /** Makes a change that has no error, and gives the answer of its method. */
    private int apply(char kind, int first, int second, int third) {
        int previous = row.has(first) ? row.numberAt(first) : 0;
        switch (kind) {
            case PUT:
                row.insert(first, second);
                break;
            case CUT:
                row.remove(first);
                break;
            case SET:
                row.replace(first, second);
                break;
            case TURN:
                row.turnSpan(first, second);
                break;
            case ADD:
                row.addToSpan(first, second, third);
                break;
            case MOVE:
                row.moveSpan(first, second, third);
                break;
            default:
                int rolled = rolledOff(first, second, third);
                if (rolled > 0) {
                    row.moveSpan(first, first + rolled - 1, second + 1 - rolled);
                }
                break;
        }
        row.evenOut();
        if (kind == PUT) {
            return row.length;
        }
        return kind == CUT || kind == SET ? previous + NUMBER_OFFSET : row.chunks;
    }

    /** How many of a span's first numbers go behind its others when it is rotated. */
    private static int rolledOff(int from, int to, int by) {
        int size = to - from + 1;
        return size < 1 ? 0 : Math.floorMod(by, size);
    }

    private int spanError(int from, int to) {
        if (!row.has(from) || !row.has(to)) {
            return NO_SUCH;
        }
        return to < from ? BAD_VALUE : FINE;
    }

    private int putError(int place, int value) {
        if (place < 0 || place > row.length) {
            return NO_SUCH;
        }
        if (outside(value, GREATEST_GIVEN)) {
            return BAD_VALUE;
        }
        return row.length >= MOST_NUMBERS ? TOO_MANY : FINE;
    }

    private int addError(int from, int to, int by) {
        int error = rollError(from, to, by);
        if (error != FINE) {
            return error;
        }
        row.layOut(standing);
        for (int place = from; place <= to; place++) {
            if (outside(standing[place] + by, GREATEST_NUMBER)) {
                return NOT_POSSIBLE;
            }
        }
        return FINE;
    }

    private int moveError(int from, int to, int place) {
        int error = spanError(from, to);
        if (error != FINE) {
            return error;
        }
        return place < 0 || place > row.length - (to - from + 1) ? BAD_VALUE : FINE;
    }

    private int rollError(int from, int to, int by) {
        int error = spanError(from, to);
        if (error != FINE) {
            return error;
        }
        return outside(by, GREATEST_GIVEN) ? BAD_VALUE : FINE;
    }

    private static boolean outside(int value, int greatest) {
        return value < -greatest || value > greatest;
    }

    /** Takes the state into the history; the oldest one goes if there is no room. */
    private void remember() {
        if (undoable >= HISTORY_ROOM) {
            Row oldest = history[0];
            for (int i = 1; i < HISTORY_ROOM; i++) {
                history[i - 1] = history[i];
            }
            undoable = HISTORY_ROOM - 1;
            history[undoable] = oldest;
        }
        history[undoable].copyFrom(row);
        undoable++;
    }

    // ---- help for questions and texts

    private int countBelow(int from, int to, int value) {
        int found = 0;
        for (int place = from; place <= to; place++) {
            if (standing[place] < value) {
                found++;
            }
        }
        return found;
    }

    private int firstPlaceOf(int value, int from, int behind) {
        for (int place = from; place < behind; place++) {
            if (standing[place] == value) {
                return place;
            }
        }
        return NONE;
    }

    /** How many characters are given, or 0 if they are not given as they should be. */
    private static int countCharacters(long characters) {
        int given = 0;
        while (given < CHARACTERS_AT_ONCE && codeOf(characters, given) != 0) {
            int code = codeOf(characters, given);
            if (code < 33 || code > 126) {
                return 0;
            }
            given++;
        }
        // A shift by 64 bits would shift by none, so eight characters are not looked at here.
        if (given < CHARACTERS_AT_ONCE && (characters >>> (8 * given)) != 0) {
            return 0;
        }
        return given;
    }

    private static int codeOf(long characters, int fromLast) {
        return (int) ((characters >>> (8 * fromLast)) & 255);
    }

    private static Row[] makeRows(int howMany) {
        Row[] rows = new Row[Math.max(howMany, 0)];
        for (int i = 0; i < rows.length; i++) {
            rows[i] = new Row();
        }
        return rows;
    }

    /**
     * The row with its chunks and the work: all that is undone and saved. The numbers of all chunks are kept
     * in one array, chunk behind chunk, so that a cut or a join moves none of them.
     * Each chunk has at least one number, so there are never more chunks than numbers.
     * The places that its methods are given have been tested by errorOf().
     */
    private static final class Row {
        private final int[] kept = new int[MOST_NUMBERS];
        private final int[] lengths = new int[MOST_NUMBERS];
        private final int[] turns = new int[MOST_NUMBERS];
        private final int[] sums = new int[MOST_NUMBERS];
        private int length = 0;
        private int chunks = 0;
        private int work = 0;

        private void copyFrom(Row other) {
            System.arraycopy(other.kept, 0, kept, 0, MOST_NUMBERS);
            System.arraycopy(other.lengths, 0, lengths, 0, MOST_NUMBERS);
            System.arraycopy(other.turns, 0, turns, 0, MOST_NUMBERS);
            System.arraycopy(other.sums, 0, sums, 0, MOST_NUMBERS);
            length = other.length;
            chunks = other.chunks;
            work = other.work;
        }

        private boolean has(int place) {
            return place >= 0 && place < length;
        }

        private int startOf(int chunk) {
            int start = 0;
            for (int c = 0; c < chunk && c < chunks; c++) {
                start += lengths[c];
            }
            return start;
        }

        private int chunkHolding(int place) {
            int behind = 0;
            for (int c = 0; c < chunks; c++) {
                behind += lengths[c];
                if (place < behind) {
                    return c;
                }
            }
            return chunks;
        }

        private int numberAt(int place) {
            int chunk = chunkHolding(place);
            if (place < 0 || chunk >= chunks) {
                return 0;
            }
            int start = startOf(chunk);
            int keptAt = turns[chunk] == 1 ? start + start + lengths[chunk] - 1 - place : place;
            return kept[keptAt] + sums[chunk];
        }

        /** Writes the numbers down as they stand in the row; there has to be room for all. */
        private void layOut(int[] numbers) {
            int start = 0;
            for (int c = 0; c < chunks; c++) {
                int last = start + lengths[c] - 1;
                for (int place = start; place <= last && place < numbers.length; place++) {
                    numbers[place] = sums[c] + (turns[c] == 1 ? kept[start + last - place] : kept[place]);
                }
                start = last + 1;
            }
        }

        private int rootOfLength() {
            int root = 1;
            while (root < MOST_NUMBERS && (root + 1) * (root + 1) <= length) {
                root++;
            }
            return root;
        }

        private int longestChunk() {
            int longest = 0;
            for (int c = 0; c < chunks; c++) {
                longest = Math.max(longest, lengths[c]);
            }
            return longest;
        }

        private int waitingTurns() {
            int waiting = 0;
            for (int c = 0; c < chunks; c++) {
                waiting += turns[c];
            }
            return waiting;
        }

        private int waitingSums() {
            int waiting = 0;
            for (int c = 0; c < chunks; c++) {
                if (sums[c] != 0) {
                    waiting++;
                }
            }
            return waiting;
        }

        private void insert(int place, int value) {
            if (length >= MOST_NUMBERS) {
                return;
            }
            int chunk = cutAt(place);
            for (int i = length; i > place; i--) {
                kept[i] = kept[i - 1];
            }
            kept[place] = value;
            length++;
            openChunk(chunk, 1);
            work++;
        }

        private void remove(int place) {
            int chunk = cutAt(place);
            cutAt(place + 1);
            for (int i = place + 1; i < length; i++) {
                kept[i - 1] = kept[i];
            }
            length--;
            closeChunk(chunk);
        }

        private void replace(int place, int value) {
            int chunk = chunkHolding(place);
            settle(chunk, startOf(chunk));
            kept[place] = value;
            work++;
        }

        private void turnSpan(int from, int to) {
            int first = cutAt(from);
            int behind = cutAt(to + 1);
            reverseChunks(first, behind);
            for (int c = first; c < behind; c++) {
                turns[c] = 1 - turns[c];
            }
        }

        private void addToSpan(int from, int to, int by) {
            int first = cutAt(from);
            int behind = cutAt(to + 1);
            for (int c = first; c < behind; c++) {
                sums[c] += by;
            }
        }

        /**
         * The span stays where it is until all is cut: ahead of it the row that is left has the same places,
         * behind it they are greater by its size. To cut where it is cut already costs nothing and tells the
         * chunk there; that is done from left to right, as a new cut shifts the chunks behind it.
         */
        private void moveSpan(int from, int to, int place) {
            int behind = to + 1;
            cutAt(from);
            cutAt(behind);
            if (place <= from) {
                exchangeChunks(cutAt(place), cutAt(from), cutAt(behind));
            } else {
                exchangeChunks(cutAt(from), cutAt(behind), cutAt(place + behind - from));
            }
        }

        /** Cuts at a place, and gives the chunk that begins there (behind all others, if none does). */
        private int cutAt(int place) {
            int start = 0;
            for (int c = 0; c < chunks; c++) {
                if (place <= start) {
                    return c;
                }
                if (place < start + lengths[c]) {
                    settle(c, start);
                    part(c, place - start);
                    return c + 1;
                }
                start += lengths[c];
            }
            return chunks;
        }

        /** Parts a chunk, in which nothing may wait, behind some of its numbers: at least one, and not all. */
        private void part(int chunk, int firstLength) {
            int secondLength = lengths[chunk] - firstLength;
            lengths[chunk] = firstLength;
            openChunk(chunk + 1, secondLength);
            work += secondLength;
        }

        /** Carries out what waits in a chunk. */
        private void settle(int chunk, int start) {
            if (turns[chunk] == 0 && sums[chunk] == 0) {
                return;
            }
            int behind = start + lengths[chunk];
            if (turns[chunk] == 1) {
                mirror(kept, start, behind);
            }
            for (int i = start; i < behind; i++) {
                kept[i] += sums[chunk];
            }
            turns[chunk] = 0;
            sums[chunk] = 0;
            work += lengths[chunk];
        }

        private void openChunk(int chunk, int size) {
            if (chunks >= MOST_NUMBERS) {
                return;
            }
            for (int c = chunks; c > chunk; c--) {
                lengths[c] = lengths[c - 1];
                turns[c] = turns[c - 1];
                sums[c] = sums[c - 1];
            }
            chunks++;
            lengths[chunk] = size;
            turns[chunk] = 0;
            sums[chunk] = 0;
        }

        private void closeChunk(int chunk) {
            for (int c = chunk + 1; c < chunks; c++) {
                lengths[c - 1] = lengths[c];
                turns[c - 1] = turns[c];
                sums[c - 1] = sums[c];
            }
            chunks--;
        }

        /** Brings chunks into the contrary order; what is kept and waits in each of them stays. */
        private void reverseChunks(int first, int behind) {
            mirror(kept, startOf(first), startOf(behind));
            mirror(lengths, first, behind);
            mirror(turns, first, behind);
            mirror(sums, first, behind);
            int start = startOf(first);
            for (int c = first; c < behind; c++) {
                mirror(kept, start, start + lengths[c]);
                start += lengths[c];
            }
        }

        /** Brings the chunks from middle on ahead of those from first on. */
        private void exchangeChunks(int first, int middle, int behind) {
            reverseChunks(first, middle);
            reverseChunks(middle, behind);
            reverseChunks(first, behind);
        }

        private void evenOut() {
            int root = rootOfLength();
            partLongChunks(root);
            joinShortChunks(root);
        }

        private void partLongChunks(int root) {
            int start = 0;
            for (int c = 0; c < chunks && c < MOST_NUMBERS; c++) {
                if (lengths[c] > 2 * root) {
                    settle(c, start);
                    part(c, root);
                }
                start += lengths[c];
            }
        }

        private void joinShortChunks(int root) {
            int start = 0;
            int c = 0;
            // Each step joins two chunks or goes on to the next one, so there are fewer steps than numbers.
            for (int step = 0; step < MOST_NUMBERS && c + 1 < chunks; step++) {
                if (lengths[c] + lengths[c + 1] <= root) {
                    settle(c, start);
                    settle(c + 1, start + lengths[c]);
                    work += lengths[c + 1];
                    lengths[c] += lengths[c + 1];
                    closeChunk(c + 1);
                } else {
                    start += lengths[c];
                    c++;
                }
            }
        }

        private static void mirror(int[] numbers, int from, int behind) {
            for (int low = from, high = behind - 1; low < high; low++, high--) {
                int number = numbers[low];
                numbers[low] = numbers[high];
                numbers[high] = number;
            }
        }
    }

    /** The pad, and a reader that goes through it order by order: where it has to stop, the fault is. */
    private static final class Pad {
        private static final char NUMBER = '#', VALUE = '@';
        private static final int MOST_DIGITS = 3;

        private final char[] characters = new char[PAD_ROOM];
        private int length = 0;
        private int position = 0;
        private char kind = 0;
        private final int[] given = new int[3];

        private void append(char character) {
            if (length < PAD_ROOM) {
                characters[length] = character;
                length++;
            }
        }

        private int firstFault() {
            position = 0;
            for (int orders = 0; orders < PAD_ROOM; orders++) {
                if (!readOrder()) {
                    return position;
                }
                if (position >= length) {
                    return NONE;
                }
                if (!skip(';')) {
                    return position;
                }
            }
            return position;
        }

        private boolean readOrder() {
            kind = next();
            String shape = shapeOf(kind);
            int numbers = 0;
            for (int i = 0; i < shape.length(); i++) {
                char part = shape.charAt(i);
                if (part == NUMBER || part == VALUE) {
                    if (!readNumber(numbers, part == VALUE)) {
                        return false;
                    }
                    numbers++;
                } else if (!skip(part)) {
                    return false;
                }
            }
            return !shape.isEmpty();
        }

        private static String shapeOf(char kind) {
            switch (kind) {
                case PUT:
                    return "put#=@";
                case CUT:
                    return "cut#";
                case SET:
                    return "set#=@";
                case TURN:
                    return "turn#-#";
                case ADD:
                    return "add#-#=@";
                case MOVE:
                    return "move#-#>#";
                case ROLL:
                    return "roll#-#=@";
                default:
                    return "";
            }
        }

        /** Reads a number; a digit that it can't have is left to what is read next, which can't be one. */
        private boolean readNumber(int index, boolean signed) {
            boolean negative = signed && skip('-');
            int number = 0;
            int digits = 0;
            while (digits < MOST_DIGITS && next() >= '0' && next() <= '9') {
                number = 10 * number + (next() - '0');
                position++;
                digits++;
                if (number == 0) {
                    break;
                }
            }
            if (digits == 0 || index >= given.length) {
                return false;
            }
            given[index] = negative ? -number : number;
            return true;
        }

        private boolean skip(char character) {
            if (next() != character) {
                return false;
            }
            position++;
            return true;
        }

        /** The character that is read next; 0, which no pad holds, at the end. */
        private char next() {
            return position < length ? characters[position] : 0;
        }
    }
}
