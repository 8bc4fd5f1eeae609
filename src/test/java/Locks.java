import java.util.function.ToLongFunction;

/** What the tests share: locks made ready, words done on them, and what they tell. */
abstract class Locks {
    static final Class<IndexOutOfBoundsException> INDEX = IndexOutOfBoundsException.class;
    static final Class<IllegalArgumentException> ARGUMENT = IllegalArgumentException.class;
    static final Class<IllegalStateException> STATE = IllegalStateException.class;

    static final int LEAST = Integer.MIN_VALUE;
    static final int MOST = Integer.MAX_VALUE;

    // ---- texts and words

    static void add(PairedTumblers x, String text) {
        for (char sign : text.toCharArray()) {
            x.append(sign);
        }
    }

    static void write(PairedTumblers x, String text) {
        x.clearBuffer();
        add(x, text);
    }

    static PairedTumblers with(String text) {
        PairedTumblers x = new PairedTumblers();
        write(x, text);
        return x;
    }

    static int doWord(PairedTumblers x, String text) {
        write(x, text);
        return x.word();
    }

    /** Turns and turns back one by one, without the buffer. */
    static void doLetters(PairedTumblers x, String letters) {
        for (char letter : letters.toCharArray()) {
            if (letter >= 'a') {
                x.turn(letter - 'a');
            } else {
                x.back(letter - 'A');
            }
        }
    }

    // ---- what stands on a lock

    /** The discs from position 0 to 5, as the figures of a number. */
    static int discs(PairedTumblers x) {
        return row(x, 0);
    }

    static int notches(PairedTumblers x) {
        return row(x, 1);
    }

    static int row(PairedTumblers x, int what) {
        int number = 0;
        for (int p = 0; p < 6; p++) {
            number = 10 * number + x.at(p, what);
        }
        return number;
    }

    static int notchSum(PairedTumblers x) {
        int sum = 0;
        for (int p = 0; p < 6; p++) {
            sum += x.at(p, 1);
        }
        return sum;
    }

    // ---- locks made ready

    static PairedTumblers fresh() {
        return new PairedTumblers();
    }

    /** All five keys alike. */
    static PairedTumblers cutAlike(int positions, int strength) {
        PairedTumblers x = new PairedTumblers();
        for (int k = 0; k < 5; k++) {
            x.cut(k, positions, strength);
        }
        return x;
    }

    /** Four saved states, a secret, an opening, a snapshot, and a word in the buffer. */
    static PairedTumblers begun() {
        PairedTumblers x = new PairedTumblers();
        x.learn();
        x.turn(0);
        x.back(0);
        x.keep();
        x.turn(2);
        write(x, "[a,b]");
        return x;
    }

    /** All is other than at first; six states are saved, one is dropped, and position 4 with the keys 1 and 4 is stuck. */
    static PairedTumblers busy() {
        PairedTumblers x = begun();
        x.cut(3, 41, 2);
        x.turn(3);
        x.stick(4);
        write(x, "[a,b");
        return x;
    }

    /** Makes the notch at one position more by 1, modulo 5, and leaves all else at the positions as it was. */
    static void addOneNotch(PairedTumblers x, int position) {
        int one = 1 << position;
        int second = 1 << ((position + 1) % 6);
        int third = 1 << ((position + 2) % 6);
        x.cut(0, one | second, 4);
        x.cut(1, second | third, 4);
        x.cut(2, one | third, 4);
        doLetters(x, "aaBBcc");
    }

    // ---- what later calls tell

    static String answer(PairedTumblers x, ToLongFunction<PairedTumblers> call) {
        try {
            return String.valueOf(call.applyAsLong(x));
        } catch (RuntimeException e) {
            return e.getClass().getSimpleName();
        }
    }

    /** What the saved states, the snapshot and the buffer hold is told only by using them up, so the lock is spent then. */
    static String later(PairedTumblers x) {
        StringBuilder told = new StringBuilder(looks(x));
        for (int i = 0; i < 7; i++) {
            told.append(" undo ").append(answer(x, PairedTumblers::undo)).append(looks(x));
        }
        told.append(" goBack ").append(answer(x, PairedTumblers::goBack)).append(looks(x));
        told.append(" append ").append(answer(x, y -> y.append('c'))).append(looks(x));
        told.append(" word ").append(answer(x, PairedTumblers::word)).append(looks(x));
        return told.append(" clear ").append(answer(x, PairedTumblers::clearBuffer)).toString();
    }

    private static String looks(PairedTumblers x) {
        StringBuilder told = new StringBuilder();
        told.append(" discs ").append(discs(x)).append(" notches ").append(notches(x)).append(" counts");
        for (int what = 0; what <= 9; what++) {
            told.append(' ').append(x.count(what));
        }
        told.append(" error ").append(x.firstError()).append(" of word");
        for (int i = 0; i <= 4; i++) {
            int what = i;
            told.append(' ').append(answer(x, y -> y.ofWord(what)));
        }
        return told.append(" digest ").append(x.digest()).toString();
    }
}
