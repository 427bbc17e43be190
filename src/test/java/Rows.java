/** Rows to begin with, and what can be seen of one, as a text. */
final class Rows {
    private static final int LENGTH = 0, CHUNKS = 1, WORK = 3;
    private static final int CHARACTERS_AT_ONCE = 8;

    private Rows() {
    }

    /** The numbers, put in one behind the other. */
    static RootChunks with(int... numbers) {
        RootChunks x = new RootChunks();
        for (int i = 0; i < numbers.length; i++) {
            x.putIn(i, numbers[i]);
        }
        return x;
    }

    /** 0, 1, 2 and so on. By hand: of 4 the chunks are 2 2 and the work 6, of 5 2 2 1 and 7, of 9 2 2 2 3 and 14. */
    static RootChunks of(int length) {
        int[] numbers = new int[length];
        for (int i = 0; i < length; i++) {
            numbers[i] = i;
        }
        return with(numbers);
    }

    static void write(RootChunks x, String text) {
        for (int i = 0; i < text.length(); i += CHARACTERS_AT_ONCE) {
            x.put(packed(text.substring(i, Math.min(text.length(), i + CHARACTERS_AT_ONCE))));
        }
    }

    /** The number by which up to eight characters are given to put(). */
    static long packed(String characters) {
        long number = 0;
        for (char c : characters.toCharArray()) {
            number = number << 8 | c;
        }
        return number;
    }

    /**
     * The numbers as they stand in the row, chunk by chunk, each with "t" if a turn waits in it and with the sum that
     * waits, and the work: "0 1 | 4 3 t +5 | 9 : 14".
     */
    static String drawn(RootChunks x) {
        StringBuilder text = new StringBuilder();
        int place = 0;
        for (int chunk = 0; chunk < x.count(CHUNKS); chunk++) {
            text.append(chunk == 0 ? "" : "| ");
            for (int i = 0; i < x.chunk(chunk, 0); i++) {
                text.append(x.at(place) - 100000).append(' ');
                place++;
            }
            text.append(x.chunk(chunk, 2) == 0 ? "" : "t ");
            int sum = x.chunk(chunk, 3) - 100000;
            text.append(sum == 0 ? "" : sum > 0 ? "+" + sum + " " : sum + " ");
        }
        return text.append(": ").append(x.count(WORK)).toString();
    }

    /** All answers to questions without an argument of their own. */
    static String answers(RootChunks x) {
        StringBuilder text = new StringBuilder(drawn(x));
        for (int what = 0; what <= 8; what++) {
            text.append(", ").append(x.count(what));
        }
        for (int chunk = 0; chunk < x.count(CHUNKS); chunk++) {
            text.append(", ").append(x.chunk(chunk, 1)).append('/').append(x.chunk(chunk, 4));
        }
        return text.append(", fault ").append(x.fault()).toString();
    }

    /** All that an object holds, also its history, its slots and its pad; the object is used up by that. */
    static String emptied(RootChunks x) {
        StringBuilder text = new StringBuilder(answers(x));
        for (int left = x.undo(); left >= 0; left = x.undo()) {
            text.append("\nundo ").append(left).append(": ").append(drawn(x));
        }
        for (int slot = 0; slot <= 1; slot++) {
            text.append("\nslot ").append(x.restore(slot)).append(": ").append(drawn(x));
        }
        text.append("\npad ").append(x.carryOut()).append(": ").append(drawn(x));
        text.append("\nlength ").append(x.count(LENGTH)).append(", pad ").append(x.wipe());
        return text.toString();
    }
}
