import java.util.ArrayDeque;
import java.util.Arrays;
import java.util.Deque;

/**
 * The document once more, held and reckoned otherwise than in the class: discs by disc and not by position,
 * turns looked up in lists of positions, words as texts that are written out, all rows of four turns tried.
 */
final class Model {
    /** All that undo() restores. */
    static final class Kept {
        int[] place = {0, 1, 2, 3, 4, 5};
        int[] notch = new int[6];
        int[] masks = new int[5];
        int[] strengths = new int[5];
        boolean[] stuck = new boolean[6];
        int[] secretPlace = null;
        int[] secretNotch = null;
        int[] uses = new int[5];
        int turns = 0;
        int account = 0;
        int openings = 0;

        Kept copy() {
            Kept c = new Kept();
            c.place = place.clone();
            c.notch = notch.clone();
            c.masks = masks.clone();
            c.strengths = strengths.clone();
            c.stuck = stuck.clone();
            c.secretPlace = secretPlace == null ? null : secretPlace.clone();
            c.secretNotch = secretNotch == null ? null : secretNotch.clone();
            c.uses = uses.clone();
            c.turns = turns;
            c.account = account;
            c.openings = openings;
            return c;
        }
    }

    private Kept now = new Kept();
    private Kept snapshot = null;
    private final Deque<Kept> saved = new ArrayDeque<>();
    private String buffer = "";

    Model() {
        for (int k = 0; k < 5; k++) {
            now.masks[k] = bit(k) + bit((k + 1) % 6) + bit((k + 3) % 6);
            now.strengths[k] = new int[] {1, 2, 3, 4, 1}[k];
        }
    }

    private static int bit(int p) {
        return 1 << p;
    }

    private static void keyIs(int key) {
        if (key < 0 || key > 4) {
            throw new IndexOutOfBoundsException();
        }
    }

    private static void positionIs(int p) {
        if (p < 0 || p > 5) {
            throw new IndexOutOfBoundsException();
        }
    }

    private static void whatIs(int what, int most) {
        if (what < 0 || what > most) {
            throw new IllegalArgumentException();
        }
    }

    private void save() {
        saved.addLast(now.copy());
        if (saved.size() > 6) {
            saved.removeFirst();
        }
    }

    // ---- turning

    private int[] positionsOf(int key) {
        int[] list = new int[6];
        int n = 0;
        for (int p = 0; p < 6; p++) {
            if ((now.masks[key] & bit(p)) != 0) {
                list[n++] = p;
            }
        }
        return Arrays.copyOf(list, n);
    }

    /** Turns the discs of the rows by a letter, "a" to "e" or "A" to "E". */
    private void turnRows(int[] place, int[] notch, char letter) {
        boolean back = letter < 'a';
        int key = back ? letter - 'A' : letter - 'a';
        int[] list = positionsOf(key);
        for (int d = 0; d < 6; d++) {
            int i = Arrays.binarySearch(list, place[d]);
            if (i >= 0) {
                int step = back ? list.length - 1 : 1;
                place[d] = list[(i + step) % list.length];
                notch[d] = Math.floorMod(notch[d] + (back ? -1 : 1) * now.strengths[key], 5);
            }
        }
    }

    private boolean isStuck(int key) {
        for (int p : positionsOf(key)) {
            if (now.stuck[p]) {
                return true;
            }
        }
        return false;
    }

    private static int keyOf(char letter) {
        return letter < 'a' ? letter - 'A' : letter - 'a';
    }

    private int agreeing(int[] place, int[] notch) {
        if (now.secretPlace == null) {
            return 0;
        }
        int n = 0;
        for (int d = 0; d < 6; d++) {
            if (place[d] == now.secretPlace[d] && notch[d] == now.secretNotch[d]) {
                n++;
            }
        }
        return n;
    }

    private void turnLetter(char letter) {
        boolean openAhead = agreeing(now.place, now.notch) == 6;
        turnRows(now.place, now.notch, letter);
        int key = keyOf(letter);
        now.turns++;
        now.uses[key]++;
        int by = now.strengths[key] * positionsOf(key).length;
        now.account += letter < 'a' ? -by : by;
        if (!openAhead && agreeing(now.place, now.notch) == 6) {
            now.openings++;
        }
    }

    int turn(int key) {
        return turnKey(key, 'a');
    }

    int back(int key) {
        return turnKey(key, 'A');
    }

    private int turnKey(int key, char base) {
        keyIs(key);
        if (isStuck(key)) {
            throw new IllegalStateException();
        }
        save();
        turnLetter((char) (base + key));
        return agreeing(now.place, now.notch);
    }

    int word() {
        String letters = wholeWord();
        if (letters.length() > 500) {
            throw new IllegalStateException();
        }
        save();
        buffer = "";
        int n = 0;
        for (char letter : letters.toCharArray()) {
            if (isStuck(keyOf(letter))) {
                break;
            }
            turnLetter(letter);
            n++;
        }
        return n;
    }

    int home() {
        save();
        int moved = 6 - atHome();
        now.place = new int[] {0, 1, 2, 3, 4, 5};
        now.notch = new int[6];
        now.account = 0;
        return moved;
    }

    private int atHome() {
        int n = 0;
        for (int d = 0; d < 6; d++) {
            if (now.place[d] == d && now.notch[d] == 0) {
                n++;
            }
        }
        return n;
    }

    // ---- keys, positions, the secret

    int cut(int key, int positions, int strength) {
        keyIs(key);
        if (positions < 0 || positions > 63 || Integer.bitCount(positions) < 2 || strength < 0 || strength > 4) {
            throw new IllegalArgumentException();
        }
        save();
        int before = now.masks[key];
        now.masks[key] = positions;
        now.strengths[key] = strength;
        return before;
    }

    int stick(int position) {
        positionIs(position);
        save();
        now.stuck[position] = !now.stuck[position];
        return stuckKeys();
    }

    private int stuckKeys() {
        int n = 0;
        for (int k = 0; k < 5; k++) {
            n += isStuck(k) ? 1 : 0;
        }
        return n;
    }

    int learn() {
        save();
        now.secretPlace = now.place.clone();
        now.secretNotch = now.notch.clone();
        return notchSum();
    }

    private int notchSum() {
        return Arrays.stream(now.notch).sum();
    }

    // ---- texts, the snapshot

    int append(int code) {
        if (code < 33 || code > 126) {
            throw new IllegalArgumentException();
        }
        if (buffer.length() == 60) {
            throw new IllegalStateException();
        }
        buffer = buffer + (char) code;
        return buffer.length();
    }

    int clearBuffer() {
        int n = buffer.length();
        buffer = "";
        return n;
    }

    int firstError() {
        for (int n = 1; n <= buffer.length(); n++) {
            if (!beginsAWord(buffer.substring(0, n))) {
                return n - 1;
            }
        }
        return buffer.length();
    }

    /** Puts a letter in place of every bracket that is closed, until none is left. */
    private static String folded(String text) {
        String before;
        String after = text.replaceAll("[a-eA-E]", "a");
        do {
            before = after;
            after = after.replaceAll("\\(a+\\)[2-9]", "a").replaceAll("\\[a+,a+\\]", "a");
        } while (!after.equals(before));
        return after;
    }

    private static boolean tooDeep(String text) {
        int open = 0;
        for (char c : text.toCharArray()) {
            open += c == '(' || c == '[' ? 1 : c == ')' || c == ']' ? -1 : 0;
            if (open > 4) {
                return true;
            }
        }
        return false;
    }

    private static boolean beginsAWord(String text) {
        return !tooDeep(text) && folded(text).matches("(a*[(\\[]|a*\\[a+,)*(a*|a*\\(a+\\))");
    }

    private String wholeWord() {
        if (tooDeep(buffer) || !folded(buffer).matches("a+")) {
            throw new IllegalArgumentException();
        }
        return written(buffer);
    }

    /** The turns of a word as letters alone. */
    private static String written(String text) {
        StringBuilder all = new StringBuilder();
        int i = 0;
        while (i < text.length()) {
            char c = text.charAt(i);
            if (c == '(') {
                int end = partner(text, i);
                all.append(written(text.substring(i + 1, end)).repeat(text.charAt(end + 1) - '0'));
                i = end + 2;
            } else if (c == '[') {
                int end = partner(text, i);
                int comma = commaOf(text, i);
                String x = written(text.substring(i + 1, comma));
                String y = written(text.substring(comma + 1, end));
                all.append(x).append(y).append(opposite(x)).append(opposite(y));
                i = end + 1;
            } else {
                all.append(c);
                i++;
            }
        }
        return all.toString();
    }

    private static int partner(String text, int from) {
        int open = 0;
        for (int i = from; ; i++) {
            char c = text.charAt(i);
            open += c == '(' || c == '[' ? 1 : c == ')' || c == ']' ? -1 : 0;
            if (open == 0) {
                return i;
            }
        }
    }

    private static int commaOf(String text, int from) {
        int open = 0;
        for (int i = from; ; i++) {
            char c = text.charAt(i);
            open += c == '(' || c == '[' ? 1 : c == ')' || c == ']' ? -1 : 0;
            if (open == 1 && c == ',') {
                return i;
            }
        }
    }

    private static String opposite(String letters) {
        StringBuilder all = new StringBuilder();
        for (char c : letters.toCharArray()) {
            all.append(Character.isLowerCase(c) ? Character.toUpperCase(c) : Character.toLowerCase(c));
        }
        return all.reverse().toString();
    }

    int keep() {
        snapshot = now.copy();
        return now.turns;
    }

    int goBack() {
        if (snapshot == null) {
            throw new IllegalStateException();
        }
        save();
        now = snapshot.copy();
        return now.turns;
    }

    int undo() {
        if (saved.isEmpty()) {
            throw new IllegalStateException();
        }
        now = saved.removeLast();
        return saved.size();
    }

    // ---- looks

    int at(int position, int what) {
        positionIs(position);
        whatIs(what, 4);
        int disc = 0;
        while (now.place[disc] != position) {
            disc++;
        }
        if (what == 0) {
            return disc;
        }
        if (what == 1) {
            return now.notch[disc];
        }
        if (what == 2) {
            return now.stuck[position] ? 1 : 0;
        }
        if (what == 3) {
            return now.secretPlace != null && now.secretPlace[disc] == position
                && now.secretNotch[disc] == now.notch[disc] ? 1 : 0;
        }
        int keys = 0;
        for (int k = 0; k < 5; k++) {
            keys += (now.masks[k] & bit(position)) != 0 ? bit(k) : 0;
        }
        return keys;
    }

    int key(int key, int what) {
        keyIs(key);
        whatIs(what, 5);
        String word = "" + (char) ('a' + key);
        switch (what) {
            case 0: return now.masks[key];
            case 1: return now.strengths[key];
            case 2: return period(word);
            case 3: return period(word);
            case 4: return isStuck(key) ? 1 : 0;
            default: return now.uses[key];
        }
    }

    private int reach(String word) {
        int[] place = {0, 1, 2, 3, 4, 5};
        int[] notch = new int[6];
        for (char letter : word.toCharArray()) {
            turnRows(place, notch, letter);
        }
        int mask = 0;
        for (int d = 0; d < 6; d++) {
            mask |= place[d] != d || notch[d] != 0 ? bit(place[d]) : 0;
        }
        return mask;
    }

    private int period(String word) {
        int[] place = {0, 1, 2, 3, 4, 5};
        int[] notch = new int[6];
        for (int times = 1; ; times++) {
            for (char letter : word.toCharArray()) {
                turnRows(place, notch, letter);
            }
            if (Arrays.equals(place, new int[] {0, 1, 2, 3, 4, 5}) && Arrays.equals(notch, new int[6])) {
                return times;
            }
        }
    }

    int pair(int first, int second, int what) {
        keyIs(first);
        keyIs(second);
        whatIs(what, 4);
        String x = "" + (char) ('a' + first);
        String y = "" + (char) ('a' + second);
        String word = x + y + x.toUpperCase() + y.toUpperCase();
        switch (what) {
            case 0: return reach(word);
            case 1: return Integer.bitCount(reach(word));
            case 2: return period(word);
            case 3: return period(word);
            default: return reach(word) == 0 ? 1 : 0;
        }
    }

    int ofWord(int what) {
        whatIs(what, 4);
        String word = wholeWord();
        if (what == 0) {
            return word.length() > 9999 ? 9999 : word.length();
        }
        if (word.length() > 500) {
            return -1;
        }
        switch (what) {
            case 1: return reach(word);
            case 2: return period(word);
            case 3: return period(word);
            default: return (int) (2 * word.chars().filter(Character::isLowerCase).count() - word.length());
        }
    }

    int count(int what) {
        whatIs(what, 9);
        switch (what) {
            case 0: return now.turns;
            case 1: return notchSum() % 5;
            case 2: return Math.floorMod(now.account, 5);
            case 3: return atHome();
            case 4: return agreeing(now.place, now.notch) == 6 ? 1 : 0;
            case 5: return agreeing(now.place, now.notch);
            case 6: return (int) java.util.stream.IntStream.range(0, 6).filter(p -> now.stuck[p]).count();
            case 7: return stuckKeys();
            case 8: return now.openings;
            default: return saved.size();
        }
    }

    // ---- what would be

    int openIn(int what) {
        whatIs(what, 1);
        if (now.secretPlace == null) {
            return -1;
        }
        for (int turns = 0; turns <= 4; turns++) {
            int first = firstOf(now.place, now.notch, turns);
            if (first >= -1) {
                return what == 0 ? turns : first;
            }
        }
        return -1;
    }

    /** The least first turn of a row of so many turns that opens the lock, -1 for no turns, -2 if there is no such row. */
    private int firstOf(int[] place, int[] notch, int turns) {
        if (turns == 0) {
            return agreeing(place, notch) == 6 ? -1 : -2;
        }
        for (int move = 0; move < 10; move++) {
            if (!isStuck(move % 5)) {
                int[] p = place.clone();
                int[] n = notch.clone();
                turnRows(p, n, (char) ((move < 5 ? 'a' : 'A') + move % 5));
                if (firstOf(p, n, turns - 1) >= -1) {
                    return move;
                }
            }
        }
        return -2;
    }

    int ifTurned(int key, int back) {
        keyIs(key);
        whatIs(back, 1);
        int[] p = now.place.clone();
        int[] n = now.notch.clone();
        turnRows(p, n, (char) ((back == 0 ? 'a' : 'A') + key));
        return agreeing(p, n);
    }

    int closest() {
        int best = 0;
        int least = 99;
        for (int first = 0; first < 4; first++) {
            for (int second = first + 1; second < 5; second++) {
                int reach = pair(first, second, 1);
                if (reach < least) {
                    least = reach;
                    best = 5 * first + second;
                }
            }
        }
        return best;
    }

    double openShare() {
        return (double) count(5) / 6;
    }

    float meanNotch() {
        return (float) notchSum() / 6;
    }

    long digest() {
        long[] hash = {3769};
        java.util.function.LongConsumer add = v -> hash[0] = 31 * hash[0] + v;
        for (int w = 0; w < 10; w++) {
            add.accept(count(w));
        }
        for (int p = 0; p < 6; p++) {
            for (int w = 0; w < 5; w++) {
                add.accept(at(p, w));
            }
        }
        for (int k = 0; k < 5; k++) {
            for (int w = 0; w < 6; w++) {
                add.accept(key(k, w));
            }
            add.accept(ifTurned(k, 0));
            add.accept(ifTurned(k, 1));
        }
        for (int x = 0; x < 5; x++) {
            for (int y = 0; y < 5; y++) {
                for (int w = 0; w < 5; w++) {
                    add.accept(pair(x, y, w));
                }
            }
        }
        add.accept(openIn(0));
        add.accept(openIn(1));
        add.accept(closest());
        add.accept(Double.doubleToLongBits(openShare()));
        add.accept(Float.floatToIntBits(meanNotch()));
        add.accept(snapshot == null ? 0 : 1);
        add.accept(buffer.length());
        buffer.chars().forEach(add::accept);
        return hash[0];
    }
}
