import java.util.function.ToLongFunction;

/** "What it is" and "Terms", but for the texts of words. */
final class TermsSentences extends SentenceTests {
    private static final String FIVE_HUNDRED = "((((ab)5)5)5)2";

    TermsSentences(Sentences sentences, Checks checks) {
        super(sentences, checks);
    }

    @Override
    void all() {
        under("What it is");
        holds("An object is used for at most 512 calls after it has been made", this::allCallsAnswer);
        under("Terms");
        holds("All numbers are integers, but for two shares.", this::sharesAreNoIntegers);
        allOfDiscs();
        allOfKeys();
        allOfWords();
        allOfUndo();
        allOfExceptions();
    }

    // ---- what it is

    private void allCallsAnswer() {
        mostTurns();
        onlyTurns();
        onlyDigests();
        onlySavedStates();
    }

    /** 34 words of 14 characters are 510 calls: no row of 512 calls can turn more often. */
    private void mostTurns() {
        PairedTumblers x = new PairedTumblers();
        for (int i = 0; i < 34; i++) {
            add(x, FIVE_HUNDRED);
            same("word() " + i, 500, x.word());
        }
        same("511th call, count(0)", 17000, x.count(0));
        same("512th call, key(1, 5)", 8500, x.key(1, 5));
    }

    /** The period of key 0 is 15, and 510 turns are 34 times that. */
    private void onlyTurns() {
        PairedTumblers x = new PairedTumblers();
        x.turn(0);
        x.learn();
        for (int i = 3; i < 512; i++) {
            x.turn(0);
        }
        same("512th call, turn(0)", 6, x.turn(0));
    }

    private void onlyDigests() {
        PairedTumblers x = new PairedTumblers();
        x.learn();
        doLetters(x, "eBaDb");
        long first = x.digest();
        for (int i = 8; i <= 512; i++) {
            same("call " + i + ", digest()", first, x.digest());
        }
    }

    private void onlySavedStates() {
        PairedTumblers x = new PairedTumblers();
        x.keep();
        for (int i = 1; i < 256; i++) {
            x.goBack();
            same("undo() " + i, 0, x.undo());
        }
        same("512th call, count(9)", 0, x.count(9));
    }

    private void sharesAreNoIntegers() {
        PairedTumblers x = new PairedTumblers();
        x.learn();
        x.turn(0);
        sameShare("openShare() of 3", 0.5, x.openShare());
        sameShare("meanNotch() of 3", 0.5, x.meanNotch());
    }

    // ---- discs

    private void allOfDiscs() {
        under("Discs");
        holds("There are 6 discs, numbered from 0, and 6 positions, numbered from 0, with one disc each.",
            this::oneDiscEach);
        holds("A disc has a notch, 0 to 4.", this::notchesWrapAround);
        holds("At first the disc p is at the position p, with the notch 0.",
            () -> stands("nothing", fresh(), 12345, 0));
        holds("A position is stuck or not, at first not.", this::stuckOrNot);
    }

    private void oneDiscEach() {
        PairedTumblers x = new PairedTumblers();
        for (int i = 0; i < 60; i++) {
            int found = 0;
            for (int p = 0; p < 6; p++) {
                found |= 1 << x.at(p, 0);
            }
            same("the discs behind " + i + " turns, as a mask", 63, found);
            doLetters(x, "abCdE".substring(i % 5, i % 5 + 1));
        }
        refused("at(-1, 0)", INDEX, Locks::busy, y -> y.at(-1, 0));
        refused("at(6, 0)", INDEX, Locks::busy, y -> y.at(6, 0));
    }

    private void notchesWrapAround() {
        for (int strength = 0; strength <= 4; strength++) {
            PairedTumblers x = cutAlike(3, strength);
            for (int n = 1; n <= 11; n++) {
                x.turn(0);
                same("the notch behind " + n + " turns by " + strength, n * strength % 5, x.at(0, 1));
                same("the other notch", n * strength % 5, x.at(1, 1));
            }
            for (int n = 10; n >= -11; n--) {
                x.back(0);
                same("the notch behind " + n + " turns by " + strength, Math.floorMod(n * strength, 5), x.at(0, 1));
            }
        }
    }

    private void stuckOrNot() {
        PairedTumblers x = new PairedTumblers();
        same("stuck at first", 0, row(x, 2));
        same("positions stuck at first", 0, x.count(6));
        for (int p = 0; p < 6; p++) {
            x.stick(p);
        }
        same("all stuck", 111111, row(x, 2));
        same("positions stuck then", 6, x.count(6));
    }

    // ---- keys

    private void allOfKeys() {
        under("Keys");
        holds("There are 5 keys, numbered from 0.", this::fiveKeys);
        holds("A key has a set of 2 to 6 positions, told as a mask (the bit p for the position p), "
            + "and a strength, 0 to 4.", this::masksAndStrengths);
        holds("At first the key k has the positions k, k + 1 modulo 6, and k + 3 modulo 6, "
            + "and the strength 1 + k modulo 4 (that is 1, 2, 3, 4 and 1).", this::keysAtFirst);
        holds("To turn a key means: the notch of each disc at a position of the key becomes more by the strength, "
            + "modulo 5", this::notchesBecomeMore);
        holds("then each of these discs goes to the next position of the key, by rising numbers, "
            + "that at the last one to the first one.", this::discsAreHandedOn);
        holds("To turn a key back means the opposite: behind turning a key and turning it back all is as it was.",
            this::backIsTheOpposite);
        holds("A key can not be turned, and not turned back, if one of its positions is stuck.", this::oneIsEnough);
    }

    private void fiveKeys() {
        PairedTumblers x = new PairedTumblers();
        for (int k = 0; k < 5; k++) {
            same("mask of key " + k, 3, Integer.bitCount(x.key(k, 0)));
        }
        refused("key(-1, 0)", INDEX, Locks::busy, y -> y.key(-1, 0));
        refused("key(5, 0)", INDEX, Locks::busy, y -> y.key(5, 0));
    }

    private void masksAndStrengths() {
        PairedTumblers x = new PairedTumblers();
        int accepted = 0;
        for (int mask = 0; mask < 64; mask++) {
            int positions = mask;
            if (!answer(x, y -> y.cut(4, positions, positions % 5)).equals("IllegalArgumentException")) {
                accepted++;
                same("mask", mask, x.key(4, 0));
                same("strength", mask % 5, x.key(4, 1));
            }
        }
        same("masks of 2 to 6 positions", 57, accepted);
        x.cut(4, 33, 0);
        same("bit 0 is position 0", 16, x.at(0, 4) & 16);
        same("bit 1 is position 1", 0, x.at(1, 4) & 16);
        same("bit 5 is position 5", 16, x.at(5, 4) & 16);
    }

    private void keysAtFirst() {
        PairedTumblers x = new PairedTumblers();
        int[] masks = {0b001011, 0b010110, 0b101100, 0b011001, 0b110010};
        int[] strengths = {1, 2, 3, 4, 1};
        for (int k = 0; k < 5; k++) {
            same("positions of key " + k, masks[k], x.key(k, 0));
            same("strength of key " + k, strengths[k], x.key(k, 1));
        }
    }

    private void notchesBecomeMore() {
        for (int mask = 0; mask < 64; mask++) {
            for (int strength = 0; strength <= 4 && Integer.bitCount(mask) >= 2; strength++) {
                PairedTumblers x = cutAlike(mask, strength);
                x.turn(4);
                x.turn(0);
                for (int p = 0; p < 6; p++) {
                    int due = (mask >> p & 1) * 2 * strength % 5;
                    same("notch at " + p + " behind two turns of " + mask + " by " + strength, due, x.at(p, 1));
                }
            }
        }
    }

    private void discsAreHandedOn() {
        for (int mask = 0; mask < 64; mask++) {
            if (Integer.bitCount(mask) >= 2) {
                PairedTumblers x = cutAlike(mask, 3);
                x.turn(2);
                for (int p = 0; p < 6; p++) {
                    int at = (mask >> p & 1) == 0 ? p : nextIn(mask, p);
                    same("the disc of " + p + " behind turning " + mask + " is at " + at, p, x.at(at, 0));
                }
            }
        }
    }

    private static int nextIn(int mask, int position) {
        int next = position;
        do {
            next = (next + 1) % 6;
        } while ((mask >> next & 1) == 0);
        return next;
    }

    private void backIsTheOpposite() {
        for (int mask = 0; mask < 64; mask++) {
            for (int strength = 0; strength <= 4 && Integer.bitCount(mask) >= 2; strength++) {
                PairedTumblers x = new PairedTumblers();
                doLetters(x, "abdCE");
                int discs = discs(x);
                int notches = notches(x);
                x.cut(2, mask, strength);
                doLetters(x, "cC");
                stands("turning " + mask + " by " + strength + " and back", x, discs, notches);
                doLetters(x, "Cc");
                stands("turning " + mask + " by " + strength + " back and on", x, discs, notches);
            }
        }
    }

    private void oneIsEnough() {
        for (int mask = 0; mask < 64; mask++) {
            for (int p = 0; p < 6 && Integer.bitCount(mask) >= 2; p++) {
                PairedTumblers x = new PairedTumblers();
                x.cut(1, mask, 1);
                x.stick(p);
                String due = (mask >> p & 1) == 1 ? "IllegalStateException" : "0";
                String call = "key " + mask + ", position " + p + " stuck, ";
                sameText(call + "turn", due, answer(x, y -> y.turn(1)));
                sameText(call + "back", due, answer(x, y -> y.back(1)));
            }
        }
    }

    // ---- words

    private void allOfWords() {
        under("Words");
        holds("A word is a row of turns, of keys and of keys back.", this::wordIsARow);
        holds("The opposite of a word has the opposite turns in the opposite order.", this::oppositeOrder);
        holds("The pair of two words x and y is the word x, then y, then the opposite of x, "
            + "then the opposite of y.", this::pairOfWords);
        holds("The reach of a word is the set of positions at which, when it is done with all discs as at first, "
            + "there is another disc than at first, or another notch.", this::reachOfWords);
        holds("The period of a word is how often it has to be done, one behind the other, "
            + "until all discs are as they were (at least 1).", this::periodIsAtLeastOne);
        holds("(Stuck positions do not matter to reach and period.)", this::stuckDoesNotMatter);
        holds("With the discs as they are behind the word, done once with all discs as at first: "
            + "the positions fall into rounds, each from a position to the one at which its disc is then, "
            + "and so on, until the first one comes again.", this::roundsOfWords);
        holds("The period is the least number that is a multiple of the period of each round: "
            + "its positions, how many, if the notches of the discs of the round together are a multiple of 5, "
            + "otherwise 5 times so many.", this::periodOfRounds);
    }

    private void asLetters(String text, String letters) {
        PairedTumblers x = new PairedTumblers();
        same("turns of " + text, letters.length(), doWord(x, text));
        PairedTumblers y = new PairedTumblers();
        doLetters(y, letters);
        stands(text + " as " + letters, x, discs(y), notches(y));
        for (int k = 0; k < 5; k++) {
            same("uses of key " + k + " by " + text, y.key(k, 5), x.key(k, 5));
        }
    }

    private void wordIsARow() {
        asLetters("a", "a");
        asLetters("A", "A");
        asLetters("abCDe", "abCDe");
        asLetters("eDCba", "eDCba");
        PairedTumblers x = new PairedTumblers();
        doWord(x, "ab");
        PairedTumblers y = new PairedTumblers();
        doWord(y, "ba");
        same("the order matters", 0, discs(x) == discs(y) ? 1 : 0);
    }

    private void oppositeOrder() {
        asLetters("[abC,d]", "abCdcBAD");
        asLetters("[d,abC]", "dabCDcBA");
        asLetters("[(ab)2c,E]", "ababcECBABAe");
        asLetters("[[a,b],c]", "abABcbaBAC");
    }

    private void pairOfWords() {
        asLetters("[a,b]", "abAB");
        asLetters("[b,a]", "baBA");
        asLetters("[A,b]", "AbaB");
        asLetters("[a,a]", "aaAA");
        asLetters("[a,A]", "aAAa");
        asLetters("[a,[b,c]]", "abcBCAcbCB");
    }

    private void reachIs(PairedTumblers x, String text, int reach) {
        write(x, text);
        same("reach of " + text, reach, x.ofWord(1));
    }

    /** Keys 0 and 1 swap two discs each, key 0 with notches; key 2 has all positions. */
    private static PairedTumblers swaps() {
        PairedTumblers x = new PairedTumblers();
        x.cut(0, 33, 1);
        x.cut(1, 6, 0);
        x.cut(2, 63, 0);
        x.cut(3, 6, 0);
        doLetters(x, "abcE");
        return x;
    }

    private void reachOfWords() {
        PairedTumblers x = swaps();
        reachIs(x, "aA", 0);
        reachIs(x, "bb", 0);
        reachIs(x, "b", 6);
        reachIs(x, "aa", 33);
        reachIs(x, "a", 33);
        reachIs(x, "aab", 39);
        reachIs(x, "c", 63);
        reachIs(x, "(c)6", 0);
        same("reach of the pair of two keys of the same positions", 0, x.pair(1, 3, 0));
    }

    private void periodIs(PairedTumblers x, String text, int period) {
        write(x, text);
        same("period of " + text + " by doing it", period, x.ofWord(2));
        same("period of " + text + " by rounds", period, x.ofWord(3));
    }

    private void periodIsAtLeastOne() {
        PairedTumblers x = swaps();
        periodIs(x, "aA", 1);
        periodIs(x, "bb", 1);
        periodIs(x, "(c)6", 1);
        periodIs(x, "b", 2);
        same("period of a pair that does nothing", 1, x.pair(1, 3, 2));
        same("the same by rounds", 1, x.pair(1, 3, 3));
    }

    private void stuckDoesNotMatter() {
        PairedTumblers x = swaps();
        for (int p = 0; p < 6; p++) {
            x.stick(p);
        }
        reachIs(x, "aab", 39);
        periodIs(x, "a", 10);
        same("period of key 2", 6, x.key(2, 2));
        same("period of key 2 by rounds", 6, x.key(2, 3));
        PairedTumblers free = swaps();
        for (int first = 0; first < 5; first++) {
            for (int what = 0; what <= 4; what++) {
                same("pair(" + first + ", 4, " + what + ")", free.pair(first, 4, what), x.pair(first, 4, what));
            }
        }
    }

    private void roundsOfWords() {
        PairedTumblers x = swaps();
        x.cut(4, 24, 0);
        periodIs(x, "b", 2);
        periodIs(x, "be", 2);
        periodIs(x, "c", 6);
        periodIs(x, "cc", 3);
        periodIs(x, "ccc", 2);
        x.cut(0, 3, 0);
        periodIs(x, "ab", 3);
        periodIs(x, "abe", 6);
        x.cut(3, 28, 0);
        periodIs(x, "ad", 6);
        x.cut(3, 60, 0);
        periodIs(x, "ad", 4);
        x.cut(3, 31, 0);
        periodIs(x, "d", 5);
    }

    private void periodOfRounds() {
        PairedTumblers x = new PairedTumblers();
        x.cut(0, 3, 1);
        periodIs(x, "a", 10);
        periodIs(x, "aa", 5);
        periodIs(x, "(a)5", 2);
        // All notches are 1 behind one turn, and 5 of them together are a multiple of 5.
        x.cut(1, 31, 1);
        periodIs(x, "b", 5);
        x.cut(1, 15, 1);
        periodIs(x, "b", 20);
        x.cut(1, 63, 1);
        periodIs(x, "b", 30);
        // A round of 3 with the notches 3, 2 and 0, or with 1, 1 and 2.
        x.cut(0, 3, 2);
        x.cut(1, 6, 3);
        periodIs(x, "ab", 3);
        x.cut(0, 3, 1);
        x.cut(1, 6, 1);
        periodIs(x, "ab", 15);
        // Rounds of 10 and 15: 30, and not 150; rounds of 10 and 3; of 2 and 15.
        x.cut(1, 28, 1);
        periodIs(x, "ab", 30);
        x.cut(1, 28, 0);
        periodIs(x, "ab", 30);
        x.cut(0, 3, 0);
        x.cut(1, 28, 1);
        periodIs(x, "ab", 30);
        x.cut(1, 12, 0);
        periodIs(x, "ab", 2);
    }

    // ---- undo

    private void allOfUndo() {
        under("Undo");
        holds("Each method that is marked \"undoable\" and does not throw an exception saves the state from before it "
            + "(also if it changes nothing): ", this::savesAlsoNothing);
        holds("all, also what is counted so far, but the buffer, the snapshot and the saved states.", this::savesAll);
        holds("At most 6 states are saved", this::atMostSix);
        holds("the oldest one is dropped first.", this::oldestIsDropped);
    }

    private void savesAlsoNothing() {
        PairedTumblers x = new PairedTumblers();
        x.home();
        x.cut(4, 50, 1);
        x.keep();
        x.goBack();
        x.stick(4);
        doWord(x, "e");
        same("saved by home(), cut(), goBack(), stick() and word() of none", 5, x.count(9));
        same("and by nothing that throws", 5, savedBehindThrows(x));
        x.learn();
        x.undo();
        x.learn();
        x.learn();
        same("undo() of a second learn()", 5, x.undo());
        same("the first one still stands", 1, x.count(4));
        notUndoable("keep()", PairedTumblers::keep);
        notUndoable("append()", y -> y.append('a'));
        notUndoable("clearBuffer()", PairedTumblers::clearBuffer);
        notUndoable("firstError()", PairedTumblers::firstError);
        notUndoable("digest()", PairedTumblers::digest);
    }

    private static int savedBehindThrows(PairedTumblers x) {
        answer(x, y -> y.turn(4));
        answer(x, y -> y.back(4));
        answer(x, y -> y.turn(5));
        answer(x, y -> y.cut(4, 50, 5));
        answer(x, y -> y.stick(6));
        answer(x, PairedTumblers::word);
        return x.count(9);
    }

    private void savesAll() {
        PairedTumblers x = new PairedTumblers();
        x.learn();
        doLetters(x, "aAb");
        x.cut(1, 48, 0);
        x.stick(0);
        add(x, "ab");
        x.keep();
        same("openings", 1, x.count(8));
        for (int left = 5; left >= 0; left--) {
            x.undo();
        }
        stands("six undo()", x, 12345, 0);
        same("the secret", 0, x.count(5));
        same("turns", 0, x.count(0));
        same("turns, told by notches", 0, x.count(2));
        same("openings", 0, x.count(8));
        same("uses", 0, x.key(0, 5));
        same("positions of the key", 22, x.key(1, 0));
        same("strength of the key", 2, x.key(1, 1));
        same("stuck", 0, x.count(6));
        same("saved states are not brought back", 0, x.count(9));
        same("the buffer stays", 2, x.clearBuffer());
        same("the snapshot stays", 3, x.goBack());
        same("the snapshot is that from before", 48, x.key(1, 0));
    }

    private void atMostSix() {
        PairedTumblers x = new PairedTumblers();
        for (int n = 1; n <= 20; n++) {
            x.turn(n % 5);
            same("saved behind " + n, Math.min(n, 6), x.count(9));
        }
        for (int left = 5; left >= 0; left--) {
            same("undo()", left, x.undo());
        }
        refused("undo() of a seventh", STATE, TermsSentences::allUndone, PairedTumblers::undo);
    }

    private static PairedTumblers allUndone() {
        PairedTumblers x = busy();
        for (int i = 0; i < 6; i++) {
            x.undo();
        }
        return x;
    }

    private void oldestIsDropped() {
        for (int turns = 6; turns <= 14; turns++) {
            PairedTumblers x = new PairedTumblers();
            for (int i = 0; i < turns; i++) {
                x.turn(0);
            }
            for (int i = 1; i <= 6; i++) {
                x.undo();
                same("turns behind " + turns + " turn(0) and " + i + " undo()", turns - i, x.count(0));
                same("notches then", (turns - i) % 5, x.at(0, 1));
            }
        }
    }

    // ---- exceptions

    private void allOfExceptions() {
        under("Exceptions");
        holds("A call that throws an exception changes nothing.", this::throwingChangesNothing);
        holds("If several exceptions apply, the one that is named first in the throws clause is thrown.",
            this::firstOfSeveral);
        holds("The constants: `NONE = -1`: There is nothing to return.", this::noneIsMinusOne);
        holds("Ahead of the calls `at`, `key`, `pair`, `ofWord`, `count` the interface says: "
            + "---- looks; nothing is changed.", this::looksChangeNothing);
        holds("Ahead of the calls `openIn`, `ifTurned`, `closest`, `openShare`, `meanNotch`, `digest` the interface says: "
            + "---- what would be; nothing is changed.", this::whatWouldBeChangesNothing);
    }

    private void throwingChangesNothing() {
        refused("turn(1)", STATE, Locks::busy, x -> x.turn(1));
        refused("back(4)", STATE, Locks::busy, x -> x.back(4));
        refused("word()", ARGUMENT, Locks::busy, PairedTumblers::word);
        refused("cut(0, 1, 0)", ARGUMENT, Locks::busy, x -> x.cut(0, 1, 0));
        refused("stick(6)", INDEX, Locks::busy, x -> x.stick(6));
        refused("append(32)", ARGUMENT, Locks::busy, x -> x.append(32));
        refused("goBack()", STATE, Locks::fresh, PairedTumblers::goBack);
        refused("undo()", STATE, Locks::fresh, PairedTumblers::undo);
    }

    private static PairedTumblers busyWith(String text) {
        PairedTumblers x = busy();
        write(x, text);
        return x;
    }

    private void firstOfSeveral() {
        refused("word(), incomplete and too long", ARGUMENT, () -> busyWith(FIVE_HUNDRED + "a("), PairedTumblers::word);
        refused("cut(5, 0, 5)", INDEX, Locks::busy, x -> x.cut(5, 0, 5));
        refused("cut(5, 1, 0)", INDEX, Locks::busy, x -> x.cut(5, 1, 0));
        refused("cut(-1, 3, -1)", INDEX, Locks::busy, x -> x.cut(-1, 3, -1));
        refused("cut(-1, 3, 5)", INDEX, Locks::busy, x -> x.cut(-1, 3, 5));
        refused("append(32) to 60", ARGUMENT, () -> busyWith("a".repeat(60)), x -> x.append(32));
        refused("at(6, 5)", INDEX, Locks::busy, x -> x.at(6, 5));
        refused("key(5, 6)", INDEX, Locks::busy, x -> x.key(5, 6));
        refused("pair(5, 0, 5)", INDEX, Locks::busy, x -> x.pair(5, 0, 5));
        refused("pair(0, -1, -1)", INDEX, Locks::busy, x -> x.pair(0, -1, -1));
        refused("ifTurned(5, 2)", INDEX, Locks::busy, x -> x.ifTurned(5, 2));
    }

    private void changesNothing(String call, ToLongFunction<PairedTumblers> looked) {
        PairedTumblers x = begun();
        looked.applyAsLong(x);
        sameText("later calls behind " + call, later(begun()), later(x));
    }

    private void looksChangeNothing() {
        for (int i = 0; i <= 9; i++) {
            int what = i;
            changesNothing("count(" + what + ")", x -> x.count(what));
        }
        for (int i = 0; i <= 5; i++) {
            int what = i;
            changesNothing("key(0, " + what + ")", x -> x.key(0, what));
        }
        for (int i = 0; i <= 4; i++) {
            int what = i;
            changesNothing("at(0, " + what + ")", x -> x.at(0, what));
            changesNothing("pair(0, 4, " + what + ")", x -> x.pair(0, 4, what));
            changesNothing("ofWord(" + what + ")", x -> x.ofWord(what));
        }
    }

    private void whatWouldBeChangesNothing() {
        changesNothing("openIn(0)", x -> x.openIn(0));
        changesNothing("openIn(1)", x -> x.openIn(1));
        changesNothing("ifTurned(3, 0)", x -> x.ifTurned(3, 0));
        changesNothing("ifTurned(3, 1)", x -> x.ifTurned(3, 1));
        changesNothing("closest()", PairedTumblers::closest);
        changesNothing("openShare()", x -> (long) x.openShare());
        changesNothing("meanNotch()", x -> (long) x.meanNotch());
        changesNothing("digest()", PairedTumblers::digest);
    }

    private void noneIsMinusOne() {
        same("NONE", -1, PairedTumblers.NONE);
        same("openIn(0) without a secret", PairedTumblers.NONE, fresh().openIn(0));
    }
}
