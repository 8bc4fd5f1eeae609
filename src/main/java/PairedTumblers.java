/**
 * Locks for pairs of keys that undo one another in part, as ../shared/DOC.md tells.
 * All rows are made with the object and used again, so that a call makes nothing but an exception.
 */
public final class PairedTumblers {
    public static final int NONE = -1;

    private static final int PLACES = 6;
    private static final int NOTCHES = 5;
    private static final int KEYS = 5;
    private static final int MOVES = 2 * KEYS;
    private static final int SAVED_STATES = 6;
    private static final int BUFFER_LENGTH = 60;
    private static final int WORD_TURNS = 500;
    private static final int TOLD_TURNS = 9999;
    private static final int OPEN_BRACKETS = 4;
    private static final int NEAR_STATES = 1 + MOVES + MOVES * MOVES;
    private static final int PERIOD_BOUND = 1000000;
    private static final int EXPONENT_BOUND = 2000;

    private final State now = new State();
    private final State snapshot = new State();
    private boolean hasSnapshot = false;
    private final State[] saved = new State[SAVED_STATES];
    private int savedCount = 0;
    private final WordText text = new WordText();
    private final Discs effect = new Discs();
    private final Discs trial = new Discs();
    private final Opener opener = new Opener();

    public PairedTumblers() {
        for (int i = 0; i < SAVED_STATES; i++) {
            saved[i] = new State();
        }
    }

    // ---- turns

    public int turn(int key) throws IndexOutOfBoundsException, IllegalStateException {
        return turnOnce(key, false);
    }

    public int back(int key) throws IndexOutOfBoundsException, IllegalStateException {
        return turnOnce(key, true);
    }

    public int word() throws IllegalArgumentException, IllegalStateException {
        text.read();
        if (!text.complete) {
            throw new IllegalArgumentException("the buffer is not a complete word");
        }
        if (text.total > WORD_TURNS) {
            throw new IllegalStateException("the word has too many turns");
        }
        save();
        int turns = 0;
        while (turns < text.total && now.allows(text.moveAt(turns))) {
            now.doMove(text.moveAt(turns));
            turns++;
        }
        text.length = 0;
        return turns;
    }

    public int home() {
        save();
        int moved = Integer.bitCount(now.discs.reach());
        now.discs.bringHome();
        now.account = 0;
        return moved;
    }

    // ---- keys, positions, the secret

    public int cut(int key, int positions, int strength) throws IndexOutOfBoundsException, IllegalArgumentException {
        requireKey(key);
        if (!isKeyMask(positions) || strength < 0 || strength >= NOTCHES) {
            throw new IllegalArgumentException("positions or strength out of range");
        }
        save();
        int before = now.keys.maskOf(key);
        now.keys.shape(key, positions, strength);
        return before;
    }

    public int stick(int position) throws IndexOutOfBoundsException {
        requirePosition(position);
        save();
        now.stuck = now.stuck ^ (1 << position);
        return now.stuckKeys();
    }

    public int learn() {
        save();
        now.secret.copyFrom(now.discs);
        now.hasSecret = true;
        return now.discs.notchSum();
    }

    // ---- texts, the snapshot

    public int append(int code) throws IllegalArgumentException, IllegalStateException {
        if (code < 33 || code > 126) {
            throw new IllegalArgumentException("the code is not 33 to 126");
        }
        if (text.length >= BUFFER_LENGTH) {
            throw new IllegalStateException("the buffer is full");
        }
        text.addSign((char) code);
        return text.length;
    }

    public int clearBuffer() {
        int before = text.length;
        text.length = 0;
        return before;
    }

    public int firstError() {
        return text.read();
    }

    public int keep() {
        snapshot.copyFrom(now);
        hasSnapshot = true;
        return now.turns;
    }

    public int goBack() throws IllegalStateException {
        if (!hasSnapshot) {
            throw new IllegalStateException("there is no snapshot");
        }
        save();
        now.copyFrom(snapshot);
        return now.turns;
    }

    public int undo() throws IllegalStateException {
        if (savedCount <= 0 || savedCount > SAVED_STATES) {
            throw new IllegalStateException("there is no saved state");
        }
        savedCount--;
        State latest = saved[savedCount];
        if (latest != null) {
            now.copyFrom(latest);
        }
        return savedCount;
    }

    // ---- looks; nothing is changed

    public int at(int position, int what) throws IndexOutOfBoundsException, IllegalArgumentException {
        requirePosition(position);
        switch (what) {
            case 0:
                return now.discs.discAt(position);
            case 1:
                return now.discs.notchAt(position);
            case 2:
                return (now.stuck >> position) & 1;
            case 3:
                return now.hasSecret && now.discs.agreesAt(now.secret, position) ? 1 : 0;
            case 4:
                return now.keys.keysAt(position);
            default:
                throw new IllegalArgumentException("what is not 0 to 4");
        }
    }

    public int key(int key, int what) throws IndexOutOfBoundsException, IllegalArgumentException {
        requireKey(key);
        switch (what) {
            case 0:
                return now.keys.maskOf(key);
            case 1:
                return now.keys.strengthOf(key);
            case 2:
                showKey(key);
                return periodByDoing();
            case 3:
                showKey(key);
                return effect.periodByRounds();
            case 4:
                return now.allows(key) ? 0 : 1;
            case 5:
                return now.usesOf(key);
            default:
                throw new IllegalArgumentException("what is not 0 to 5");
        }
    }

    public int pair(int first, int second, int what) throws IndexOutOfBoundsException, IllegalArgumentException {
        requireKey(first);
        requireKey(second);
        if (what < 0 || what > 4) {
            throw new IllegalArgumentException("what is not 0 to 4");
        }
        showPair(first, second);
        switch (what) {
            case 0:
                return effect.reach();
            case 1:
                return Integer.bitCount(effect.reach());
            case 2:
                return periodByDoing();
            case 3:
                return effect.periodByRounds();
            default:
                return effect.reach() == 0 ? 1 : 0;
        }
    }

    public int ofWord(int what) throws IllegalArgumentException {
        if (what < 0 || what > 4) {
            throw new IllegalArgumentException("what is not 0 to 4");
        }
        text.read();
        if (!text.complete) {
            throw new IllegalArgumentException("the buffer is not a complete word");
        }
        if (what == 0) {
            return Math.min(text.total, TOLD_TURNS);
        }
        if (text.total > WORD_TURNS) {
            return NONE;
        }
        return ofShortWord(what);
    }

    public int count(int what) throws IllegalArgumentException {
        switch (what) {
            case 0:
                return now.turns;
            case 1:
                return now.discs.notchSum() % NOTCHES;
            case 2:
                return now.account;
            case 3:
                return PLACES - Integer.bitCount(now.discs.reach());
            case 4:
                return now.opens() ? 1 : 0;
            case 5:
                return now.asInSecret(now.discs);
            case 6:
                return Integer.bitCount(now.stuck);
            case 7:
                return now.stuckKeys();
            case 8:
                return now.openings;
            case 9:
                return savedCount;
            default:
                throw new IllegalArgumentException("what is not 0 to 9");
        }
    }

    // ---- what would be; nothing is changed

    public int openIn(int what) throws IllegalArgumentException {
        if (what < 0 || what > 1) {
            throw new IllegalArgumentException("what is not 0 or 1");
        }
        opener.search(now);
        return what == 0 ? opener.fewest : opener.first;
    }

    public int ifTurned(int key, int back) throws IndexOutOfBoundsException, IllegalArgumentException {
        requireKey(key);
        if (back < 0 || back > 1) {
            throw new IllegalArgumentException("back is not 0 or 1");
        }
        trial.copyFrom(now.discs);
        now.keys.move(trial, moveOf(key, back == 1));
        return now.asInSecret(trial);
    }

    public int closest() {
        int best = NONE;
        int fewest = PLACES + 1;
        for (int first = 0; first < KEYS; first++) {
            for (int second = first + 1; second < KEYS; second++) {
                showPair(first, second);
                int moved = Integer.bitCount(effect.reach());
                if (moved < fewest) {
                    fewest = moved;
                    best = 5 * first + second;
                }
            }
        }
        return best;
    }

    public double openShare() {
        return (double) now.asInSecret(now.discs) / 6.0;
    }

    public float meanNotch() {
        return (float) now.discs.notchSum() / 6.0f;
    }

    public long digest() {
        long hash = 3769L;
        for (int what = 0; what <= 9; what++) {
            hash = mix(hash, count(what));
        }
        hash = mixPositions(hash);
        hash = mixKeys(hash);
        hash = mixPairs(hash);
        hash = mix(hash, openIn(0));
        hash = mix(hash, openIn(1));
        hash = mix(hash, closest());
        hash = mix(hash, doubleBits(openShare()));
        hash = mix(hash, floatBits(meanNotch()));
        hash = mix(hash, hasSnapshot ? 1 : 0);
        return mixBuffer(hash);
    }

    // ---- helpers of the face

    private static void requireKey(int key) {
        if (key < 0 || key >= KEYS) {
            throw new IndexOutOfBoundsException("there is no such key");
        }
    }

    private static void requirePosition(int position) {
        if (position < 0 || position >= PLACES) {
            throw new IndexOutOfBoundsException("there is no such position");
        }
    }

    private static boolean isKeyMask(int positions) {
        return positions >= 0 && positions < (1 << PLACES) && Integer.bitCount(positions) >= 2;
    }

    private int turnOnce(int key, boolean back) {
        requireKey(key);
        int move = moveOf(key, back);
        if (!now.allows(move)) {
            throw new IllegalStateException("a position of the key is stuck");
        }
        save();
        now.doMove(move);
        return now.asInSecret(now.discs);
    }

    private void save() {
        if (savedCount >= SAVED_STATES) {
            dropOldest();
        }
        if (savedCount >= 0 && savedCount < SAVED_STATES) {
            writeSaved(saved[savedCount]);
        }
    }

    private void writeSaved(State free) {
        if (free != null) {
            free.copyFrom(now);
            savedCount++;
        }
    }

    /** The oldest state's rows go behind the others, to be written anew. */
    private void dropOldest() {
        State oldest = saved[0];
        for (int i = 1; i < SAVED_STATES; i++) {
            saved[i - 1] = saved[i];
        }
        saved[SAVED_STATES - 1] = oldest;
        savedCount = SAVED_STATES - 1;
    }

    private void showKey(int key) {
        effect.bringHome();
        now.keys.move(effect, moveOf(key, false));
    }

    private void showPair(int first, int second) {
        effect.bringHome();
        now.keys.move(effect, moveOf(first, false));
        now.keys.move(effect, moveOf(second, false));
        now.keys.move(effect, moveOf(first, true));
        now.keys.move(effect, moveOf(second, true));
    }

    private void showWord() {
        effect.bringHome();
        for (int i = 0; i < text.total && i < WORD_TURNS; i++) {
            now.keys.move(effect, text.moveAt(i));
        }
    }

    private int ofShortWord(int what) {
        if (what == 4) {
            return text.turnsLessBacks();
        }
        showWord();
        switch (what) {
            case 1:
                return effect.reach();
            case 2:
                return periodByDoing();
            default:
                return effect.periodByRounds();
        }
    }

    private int periodByDoing() {
        trial.copyFrom(effect);
        int times = 1;
        while (times < PERIOD_BOUND && trial.reach() != 0) {
            trial.putAhead(effect);
            times++;
        }
        return times;
    }

    private static long mix(long hash, long value) {
        return 31L * hash + value;
    }

    private long mixPositions(long start) {
        long hash = start;
        for (int position = 0; position < PLACES; position++) {
            for (int what = 0; what <= 4; what++) {
                hash = mix(hash, at(position, what));
            }
        }
        return hash;
    }

    private long mixKeys(long start) {
        long hash = start;
        for (int key = 0; key < KEYS; key++) {
            for (int what = 0; what <= 5; what++) {
                hash = mix(hash, key(key, what));
            }
            hash = mix(hash, ifTurned(key, 0));
            hash = mix(hash, ifTurned(key, 1));
        }
        return hash;
    }

    private long mixPairs(long start) {
        long hash = start;
        for (int first = 0; first < KEYS; first++) {
            for (int second = 0; second < KEYS; second++) {
                for (int what = 0; what <= 4; what++) {
                    hash = mix(hash, pair(first, second, what));
                }
            }
        }
        return hash;
    }

    private long mixBuffer(long start) {
        long hash = mix(start, text.length);
        for (int i = 0; i < text.length && i < BUFFER_LENGTH; i++) {
            hash = mix(hash, text.signAt(i));
        }
        return hash;
    }

    /**
     * The bits of a share, 0 to 1. They are told by hand, since LANGUAGE.md's library
     * has no doubleToLongBits; doubling and taking 1 away are exact.
     */
    private static long doubleBits(double share) {
        if (!(share > 0.0)) {
            return 0L;
        }
        double rest = share;
        long exponent = 1023L;
        for (int i = 0; i < EXPONENT_BOUND && rest < 1.0; i++) {
            rest = rest * 2.0;
            exponent--;
        }
        return (exponent << 52) | (long) ((rest - 1.0) * 4503599627370496.0);
    }

    /** As doubleBits, in a float's form; a mean notch may be up to 4, and halving is exact too. */
    private static int floatBits(float mean) {
        if (!(mean > 0.0f)) {
            return 0;
        }
        float rest = mean;
        int exponent = 127;
        for (int i = 0; i < EXPONENT_BOUND && rest < 1.0f; i++) {
            rest = rest * 2.0f;
            exponent--;
        }
        for (int i = 0; i < EXPONENT_BOUND && rest >= 2.0f; i++) {
            rest = rest / 2.0f;
            exponent++;
        }
        return (exponent << 23) | (int) ((rest - 1.0f) * 8388608.0f);
    }

    // ---- moves: a key's number if it is turned, 5 and the number if it is turned back, as openIn(1) tells them

    private static int moveOf(int key, boolean back) {
        return back ? KEYS + key : key;
    }

    private static boolean isBack(int move) {
        return move >= KEYS;
    }

    private static int keyOf(int move) {
        return move >= KEYS ? move - KEYS : move;
    }

    private static int opposite(int move) {
        return moveOf(keyOf(move), !isBack(move));
    }

    /** Six discs with their notches, by position; also what a word does, as the discs behind it when it began at home. */
    private static final class Discs {
        private final int[] disc = new int[PLACES];
        private final int[] notch = new int[PLACES];

        Discs() {
            for (int p = 0; p < PLACES; p++) {
                disc[p] = p;
            }
        }

        int discAt(int position) {
            return position >= 0 && position < PLACES ? disc[position] : NONE;
        }

        int notchAt(int position) {
            return position >= 0 && position < PLACES ? notch[position] : 0;
        }

        boolean agreesAt(Discs other, int position) {
            return discAt(position) == other.discAt(position) && notchAt(position) == other.notchAt(position);
        }

        void bringHome() {
            for (int p = 0; p < PLACES; p++) {
                disc[p] = p;
                notch[p] = 0;
            }
        }

        void copyFrom(Discs other) {
            for (int p = 0; p < PLACES; p++) {
                disc[p] = other.disc[p];
                notch[p] = other.notch[p];
            }
        }

        /** Turning back is the same handing on, by falling numbers and with the notches that are missing to 5. */
        void rotate(int mask, int strength, boolean back) {
            int more = back ? NOTCHES - strength : strength;
            int first = NONE;
            int carriedDisc = 0;
            int carriedNotch = 0;
            for (int i = 0; i < PLACES; i++) {
                int p = back ? PLACES - 1 - i : i;
                if (((mask >> p) & 1) == 1) {
                    int leavingDisc = disc[p];
                    int leavingNotch = (notch[p] + more) % NOTCHES;
                    if (first == NONE) {
                        first = p;
                    } else {
                        disc[p] = carriedDisc;
                        notch[p] = carriedNotch;
                    }
                    carriedDisc = leavingDisc;
                    carriedNotch = leavingNotch;
                }
            }
            if (first >= 0 && first < PLACES) {
                disc[first] = carriedDisc;
                notch[first] = carriedNotch;
            }
        }

        /**
         * Does a word ahead of all that these discs show. For a word and what it does again and again,
         * ahead and behind are the same; ahead needs no second row.
         */
        void putAhead(Discs word) {
            for (int p = 0; p < PLACES; p++) {
                int between = disc[p];
                disc[p] = word.discAt(between);
                notch[p] = (notch[p] + word.notchAt(between)) % NOTCHES;
            }
        }

        /** The positions with another disc or another notch than at first, as a mask. */
        int reach() {
            int mask = 0;
            for (int p = 0; p < PLACES; p++) {
                if (disc[p] != p || notch[p] != 0) {
                    mask = mask | (1 << p);
                }
            }
            return mask;
        }

        int notchSum() {
            int sum = 0;
            for (int p = 0; p < PLACES; p++) {
                sum = sum + notch[p];
            }
            return sum;
        }

        int agreeing(Discs other) {
            int same = 0;
            for (int p = 0; p < PLACES; p++) {
                if (disc[p] == other.disc[p] && notch[p] == other.notch[p]) {
                    same++;
                }
            }
            return same;
        }

        /** A number that no other discs have: 30 to the 6th is less than an int's most. */
        int fingerprint() {
            int number = 0;
            for (int p = 0; p < PLACES; p++) {
                number = number * (PLACES * NOTCHES) + disc[p] * NOTCHES + notch[p];
            }
            return number;
        }

        int periodByRounds() {
            int period = 1;
            int seen = 0;
            for (int start = 0; start < PLACES; start++) {
                int length = 0;
                int notches = 0;
                int p = start;
                while (length < PLACES && ((seen >> p) & 1) == 0) {
                    seen = seen | (1 << p);
                    p = placeOf(p);
                    notches = notches + notchAt(p);
                    length++;
                }
                if (length > 0) {
                    period = leastMultiple(period, notches % NOTCHES == 0 ? length : NOTCHES * length);
                }
            }
            return period;
        }

        private int placeOf(int wanted) {
            int place = wanted;
            for (int p = 0; p < PLACES; p++) {
                if (disc[p] == wanted) {
                    place = p;
                }
            }
            return place;
        }

        private static int leastMultiple(int one, int other) {
            int multiple = one;
            for (int i = 1; i < other && multiple % other != 0; i++) {
                multiple = multiple + one;
            }
            return multiple;
        }
    }

    /** The keys as they are cut. */
    private static final class Keys {
        private final int[] mask = new int[KEYS];
        private final int[] strength = new int[KEYS];

        Keys() {
            for (int k = 0; k < KEYS; k++) {
                mask[k] = (1 << k) | (1 << ((k + 1) % PLACES)) | (1 << ((k + 3) % PLACES));
                strength[k] = 1 + k % 4;
            }
        }

        int maskOf(int key) {
            return key >= 0 && key < KEYS ? mask[key] : 0;
        }

        int strengthOf(int key) {
            return key >= 0 && key < KEYS ? strength[key] : 0;
        }

        void shape(int key, int positions, int newStrength) {
            if (key >= 0 && key < KEYS) {
                mask[key] = positions;
                strength[key] = newStrength;
            }
        }

        int keysAt(int position) {
            int keys = 0;
            for (int k = 0; k < KEYS; k++) {
                if (((mask[k] >> position) & 1) == 1) {
                    keys = keys | (1 << k);
                }
            }
            return keys;
        }

        void move(Discs discs, int move) {
            int key = keyOf(move);
            discs.rotate(maskOf(key), strengthOf(key), isBack(move));
        }

        /** What a move adds to the notches of all discs together. */
        int notchesBy(int move) {
            int key = keyOf(move);
            int notches = strengthOf(key) * Integer.bitCount(maskOf(key));
            return isBack(move) ? -notches : notches;
        }

        void copyFrom(Keys other) {
            for (int k = 0; k < KEYS; k++) {
                mask[k] = other.mask[k];
                strength[k] = other.strength[k];
            }
        }
    }

    /** All that undo() restores. */
    private static final class State {
        private final Discs discs = new Discs();
        private final Keys keys = new Keys();
        private final Discs secret = new Discs();
        private boolean hasSecret = false;
        private int stuck = 0;
        private final int[] uses = new int[KEYS];
        private int turns = 0;
        private int account = 0;
        private int openings = 0;

        void copyFrom(State other) {
            discs.copyFrom(other.discs);
            keys.copyFrom(other.keys);
            secret.copyFrom(other.secret);
            hasSecret = other.hasSecret;
            stuck = other.stuck;
            for (int k = 0; k < KEYS; k++) {
                uses[k] = other.uses[k];
            }
            turns = other.turns;
            account = other.account;
            openings = other.openings;
        }

        boolean allows(int move) {
            return (keys.maskOf(keyOf(move)) & stuck) == 0;
        }

        int stuckKeys() {
            int held = 0;
            for (int k = 0; k < KEYS; k++) {
                if (!allows(k)) {
                    held++;
                }
            }
            return held;
        }

        int usesOf(int key) {
            return key >= 0 && key < KEYS ? uses[key] : 0;
        }

        int asInSecret(Discs some) {
            return hasSecret ? some.agreeing(secret) : 0;
        }

        boolean opens() {
            return asInSecret(discs) == PLACES;
        }

        void doMove(int move) {
            boolean openedAhead = opens();
            keys.move(discs, move);
            account = Math.floorMod(account + keys.notchesBy(move), NOTCHES);
            turns++;
            int key = keyOf(move);
            if (key >= 0 && key < KEYS) {
                uses[key]++;
            }
            if (!openedAhead && opens()) {
                openings++;
            }
        }
    }

    /** The buffer, and the word that it tells. */
    private static final class WordText {
        private static final int ROUND = 0;
        private static final int SQUARE_FIRST = 1;
        private static final int SQUARE_SECOND = 2;

        private final char[] sign = new char[BUFFER_LENGTH];
        private int length = 0;

        // The word's moves are right as far as they fit; total counts on beyond that.
        private final int[] moves = new int[WORD_TURNS];
        private int total = 0;
        private boolean complete = false;

        private final int[] kind = new int[OPEN_BRACKETS];
        private final int[] begin = new int[OPEN_BRACKETS];
        private final int[] middle = new int[OPEN_BRACKETS];
        private int open = 0;
        private boolean hasItem = false;
        private boolean wantsFigure = false;

        void addSign(char added) {
            if (length >= 0 && length < BUFFER_LENGTH) {
                sign[length] = added;
                length++;
            }
        }

        char signAt(int index) {
            return index >= 0 && index < BUFFER_LENGTH ? sign[index] : 0;
        }

        int moveAt(int index) {
            return index >= 0 && index < WORD_TURNS ? moves[index] : 0;
        }

        int turnsLessBacks() {
            int sum = 0;
            for (int i = 0; i < total && i < WORD_TURNS; i++) {
                sum = sum + (isBack(moves[i]) ? -1 : 1);
            }
            return sum;
        }

        /** Reads the buffer up to its first syntax error, and tells where that is. */
        int read() {
            total = 0;
            open = 0;
            hasItem = false;
            wantsFigure = false;
            int index = 0;
            while (index < length && takes(signAt(index))) {
                index++;
            }
            complete = index == length && open == 0 && hasItem && !wantsFigure;
            return index;
        }

        private boolean takes(char c) {
            if (wantsFigure) {
                return takesFigure(c);
            }
            if (c >= 'a' && c <= 'e') {
                return takesMove(moveOf(c - 'a', false));
            }
            if (c >= 'A' && c <= 'E') {
                return takesMove(moveOf(c - 'A', true));
            }
            if (c == '(') {
                return takesOpening(ROUND);
            }
            if (c == '[') {
                return takesOpening(SQUARE_FIRST);
            }
            return hasItem && takesInBracket(c);
        }

        private boolean takesMove(int move) {
            addMove(move);
            hasItem = true;
            return true;
        }

        private boolean takesOpening(int newKind) {
            if (open < 0 || open >= OPEN_BRACKETS) {
                return false;
            }
            kind[open] = newKind;
            begin[open] = total;
            middle[open] = total;
            open++;
            hasItem = false;
            return true;
        }

        /** Takes what may stand behind an item in the innermost bracket, other than one more item. */
        private boolean takesInBracket(char c) {
            int inner = open - 1;
            if (inner < 0 || inner >= OPEN_BRACKETS) {
                return false;
            }
            if (kind[inner] == ROUND && c == ')') {
                wantsFigure = true;
                return true;
            }
            if (kind[inner] == SQUARE_FIRST && c == ',') {
                kind[inner] = SQUARE_SECOND;
                middle[inner] = total;
                hasItem = false;
                return true;
            }
            if (kind[inner] == SQUARE_SECOND && c == ']') {
                open = inner;
                addOpposite(begin[inner], middle[inner], total);
                return true;
            }
            return false;
        }

        private boolean takesFigure(char c) {
            int inner = open - 1;
            if (c < '2' || c > '9' || inner < 0 || inner >= OPEN_BRACKETS) {
                return false;
            }
            wantsFigure = false;
            open = inner;
            repeat(begin[inner], c - '0');
            return true;
        }

        private void addMove(int move) {
            if (total >= 0 && total < WORD_TURNS) {
                moves[total] = move;
            }
            total++;
        }

        private void repeat(int from, int times) {
            int part = total - from;
            int end = from + part * times;
            for (int i = total; i < end && i < WORD_TURNS; i++) {
                addMove(moveAt(i - part));
            }
            total = end;
        }

        /** Behind x from one place to the second and y from there to the third: the opposite of x, then that of y. */
        private void addOpposite(int from, int between, int to) {
            int end = to + to - from;
            for (int i = between - 1; i >= from && total < WORD_TURNS; i--) {
                addMove(opposite(moveAt(i)));
            }
            for (int i = to - 1; i >= between && total < WORD_TURNS; i--) {
                addMove(opposite(moveAt(i)));
            }
            total = end;
        }
    }

    /**
     * Finds the fewest turns to the secret. All discs at most two turns from the secret are listed first
     * (keys turn and turn back alike, so it is as far from them to it); from the discs as they are,
     * two turns then meet that list, where trying all rows of four turns would take a hundred times as long.
     */
    private static final class Opener {
        private static final int LISTED_TURNS = 2;

        private final int[] near = new int[NEAR_STATES];
        private final int[] nearTurns = new int[NEAR_STATES];
        private int size = 0;
        private final Discs one = new Discs();
        private final Discs two = new Discs();

        private int fewest = NONE;
        private int first = NONE;

        void search(State state) {
            fewest = NONE;
            first = NONE;
            if (!state.hasSecret) {
                return;
            }
            if (state.opens()) {
                fewest = 0;
                return;
            }
            listNear(state);
            for (int move = 0; move < MOVES; move++) {
                if (state.allows(move)) {
                    tryFirst(state, move);
                }
            }
        }

        private void tryFirst(State state, int move) {
            one.copyFrom(state.discs);
            state.keys.move(one, move);
            int rest = listedTurns(one);
            // Behind any find, one with three turns more would be no better.
            if (rest == NONE && fewest == NONE && meetsList(state)) {
                rest = LISTED_TURNS + 1;
            }
            if (rest != NONE && (fewest == NONE || rest + 1 < fewest)) {
                fewest = rest + 1;
                first = move;
            }
        }

        private boolean meetsList(State state) {
            for (int move = 0; move < MOVES; move++) {
                if (state.allows(move)) {
                    two.copyFrom(one);
                    state.keys.move(two, move);
                    if (listedTurns(two) != NONE) {
                        return true;
                    }
                }
            }
            return false;
        }

        /** Lists by rising turns, so that what is found first has the fewest. */
        private void listNear(State state) {
            size = 0;
            list(state.secret, 0);
            for (int move = 0; move < MOVES; move++) {
                if (state.allows(move)) {
                    one.copyFrom(state.secret);
                    state.keys.move(one, move);
                    list(one, 1);
                }
            }
            for (int move = 0; move < MOVES; move++) {
                if (state.allows(move)) {
                    one.copyFrom(state.secret);
                    state.keys.move(one, move);
                    listBehindOne(state);
                }
            }
        }

        private void listBehindOne(State state) {
            for (int move = 0; move < MOVES; move++) {
                if (state.allows(move)) {
                    two.copyFrom(one);
                    state.keys.move(two, move);
                    list(two, LISTED_TURNS);
                }
            }
        }

        private void list(Discs discs, int turns) {
            if (size >= 0 && size < NEAR_STATES) {
                near[size] = discs.fingerprint();
                nearTurns[size] = turns;
                size++;
            }
        }

        private int listedTurns(Discs discs) {
            int wanted = discs.fingerprint();
            for (int i = 0; i < size && i < NEAR_STATES; i++) {
                if (near[i] == wanted) {
                    return nearTurns[i];
                }
            }
            return NONE;
        }
    }
}
