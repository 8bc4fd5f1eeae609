/** Promises 15 to 19: at, key, pair, ofWord and count. */
final class LooksSentences extends SentenceTests {
    private static final String FIVE_HUNDRED = "((((ab)5)5)5)2";

    LooksSentences(Sentences sentences, Checks checks) {
        super(sentences, checks);
    }

    @Override
    void all() {
        allOfAt();
        allOfKey();
        allOfPair();
        allOfOfWord();
        allOfCount();
    }

    // ---- promise 15

    private void allOfAt() {
        under("Promise 15: at");
        holds("Tells what is at a position.", () -> stands("turn(0)", turned("a"), 302145, 110100));
        holds("`position`: 0 to 5", () -> same("discs of all positions", 12345, discs(fresh())));
        holds("0: the disc", () -> same("discs", 412035, row(turned("d"), 0)));
        holds("1: its notch", () -> {
            same("the most", 400440, row(turned("d"), 1));
            same("modulo 5", 300330, row(turned("dd"), 1));
            same("it goes with its disc", 123120, row(turned("ab"), 1));
        });
        holds("2: 1 if the position is stuck, otherwise 0", () -> {
            PairedTumblers x = new PairedTumblers();
            same("none", 0, row(x, 2));
            x.stick(0);
            x.stick(5);
            same("the first and the last one", 100001, row(x, 2));
            x.stick(0);
            same("one is freed", 1, row(x, 2));
        });
        holds("3: 1 if disc and notch are as in the secret, otherwise 0", this::atSecret);
        holds("4: the keys that have this position, as a mask", () -> {
            PairedTumblers x = new PairedTumblers();
            int[] keys = {9, 19, 6, 13, 26, 20};
            for (int p = 0; p < 6; p++) {
                same("at first", keys[p], x.at(p, 4));
            }
            x = cutAlike(33, 0);
            same("all keys", 31, x.at(5, 4));
            same("no key", 0, x.at(1, 4));
        });
        holds("Returns the number.", () -> same("at(0, 0)", 3, turned("a").at(0, 0)));
        holds("Throws `IndexOutOfBoundsException` if there is no such position", () -> {
            for (int position : new int[] {-1, 6, 7, 31, 32, LEAST, MOST}) {
                refused("at(" + position + ", 0)", INDEX, Locks::busy, x -> x.at(position, 0));
                refused("at(" + position + ", 4)", INDEX, Locks::busy, x -> x.at(position, 4));
            }
        });
        holds("Throws `IllegalArgumentException` if what is not 0 to 4", () -> {
            for (int what : new int[] {-1, 5, 6, LEAST, MOST}) {
                refused("at(0, " + what + ")", ARGUMENT, Locks::busy, x -> x.at(0, what));
                refused("at(5, " + what + ")", ARGUMENT, Locks::busy, x -> x.at(5, what));
            }
        });
    }

    private static PairedTumblers turned(String letters) {
        PairedTumblers x = new PairedTumblers();
        doLetters(x, letters);
        return x;
    }

    private void atSecret() {
        PairedTumblers x = cutAlike(3, 0);
        same("no secret", 0, row(x, 3));
        x.learn();
        same("all", 111111, row(x, 3));
        x.turn(0);
        same("other discs with the same notches", 1111, row(x, 3));
        x.cut(0, 3, 1);
        x.turn(0);
        same("the same discs with other notches", 1111, row(x, 3));
        x.home();
        same("all again", 111111, row(x, 3));
    }

    // ---- promise 16

    private void allOfKey() {
        under("Promise 16: key");
        holds("Tells something of a key.", () -> same("key(0, 0)", 11, fresh().key(0, 0)));
        holds("`key`: 0 to 4", () -> {
            int[] masks = {11, 22, 44, 25, 50};
            for (int k = 0; k < 5; k++) {
                same("key(" + k + ", 0)", masks[k], fresh().key(k, 0));
            }
        });
        holds("0: its positions", () -> {
            same("the fewest", 3, cutAlike(3, 0).key(4, 0));
            same("the most", 63, cutAlike(63, 0).key(4, 0));
        });
        holds("1: its strength", () -> {
            same("the least", 0, cutAlike(3, 0).key(4, 1));
            same("the most", 4, cutAlike(3, 4).key(4, 1));
        });
        holds("2: its period, told by doing it again and again", () -> periodsOfKeys(2));
        holds("3: its period, told by rounds", () -> periodsOfKeys(3));
        holds("4: 1 if it can not be turned, otherwise 0", () -> {
            PairedTumblers x = busy();
            int[] due = {0, 1, 0, 0, 1};
            for (int k = 0; k < 5; k++) {
                same("key(" + k + ", 4)", due[k], x.key(k, 4));
            }
        });
        holds("5: how often it was turned, or turned back, so far", this::usesOfKeys);
        holds("Returns the number.", () -> {
            int[][] due = {{11, 1, 15, 15, 0, 0}, {22, 2, 15, 15, 0, 0}, {44, 3, 15, 15, 0, 0}, {25, 4, 15, 15, 0, 0},
                {50, 1, 15, 15, 0, 0}};
            for (int k = 0; k < 5; k++) {
                for (int what = 0; what <= 5; what++) {
                    same("key(" + k + ", " + what + ")", due[k][what], fresh().key(k, what));
                }
            }
        });
        holds("Throws `IndexOutOfBoundsException` if there is no such key", () -> {
            for (int key : new int[] {-1, 5, 6, LEAST, MOST}) {
                refused("key(" + key + ", 0)", INDEX, Locks::busy, x -> x.key(key, 0));
                refused("key(" + key + ", 5)", INDEX, Locks::busy, x -> x.key(key, 5));
            }
        });
        holds("Throws `IllegalArgumentException` if what is not 0 to 5", () -> {
            for (int what : new int[] {-1, 6, 7, LEAST, MOST}) {
                refused("key(0, " + what + ")", ARGUMENT, Locks::busy, x -> x.key(0, what));
                refused("key(4, " + what + ")", ARGUMENT, Locks::busy, x -> x.key(4, what));
            }
        });
    }

    /** A key is one round: behind a turn its notches are the strength times the positions. */
    private void periodsOfKeys(int what) {
        for (int mask = 0; mask < 64; mask++) {
            int positions = Integer.bitCount(mask);
            for (int strength = 0; strength <= 4 && positions >= 2; strength++) {
                int due = positions * strength % 5 == 0 ? positions : 5 * positions;
                PairedTumblers x = turned("abC");
                x.cut(4, mask, strength);
                x.stick(0);
                same("period of " + mask + " by " + strength, due, x.key(4, what));
            }
        }
    }

    private void usesOfKeys() {
        PairedTumblers x = new PairedTumblers();
        for (int k = 0; k < 5; k++) {
            same("at first", 0, x.key(k, 5));
        }
        doLetters(x, "aeEe");
        same("turned and turned back", 3, x.key(4, 5));
        same("turned", 1, x.key(0, 5));
        doWord(x, "([e,a])2");
        same("by word()", 7, x.key(4, 5));
        x.stick(4);
        answer(x, y -> y.turn(4));
        doWord(x, "ae");
        same("not by what can not be turned", 7, x.key(4, 5));
        same("by the turns ahead of it", 6, x.key(0, 5));
        x.home();
        x.cut(4, 3, 1);
        same("home() and cut() take none back", 7, x.key(4, 5));
        x.undo();
        x.undo();
        x.undo();
        same("undo() does", 5, x.key(0, 5));
    }

    // ---- promise 17

    private void allOfPair() {
        under("Promise 17: pair");
        holds("Tells of the pair of two keys, each turned once.", this::pairIsOfTurns);
        holds("`first`: 0 to 4", () -> {
            for (int k = 0; k < 5; k++) {
                same("pair(" + k + ", 0, 4)", k == 0 ? 1 : 0, fresh().pair(k, 0, 4));
            }
        });
        holds("`second`: 0 to 4", () -> {
            for (int k = 0; k < 5; k++) {
                same("pair(0, " + k + ", 4)", k == 0 ? 1 : 0, fresh().pair(0, k, 4));
            }
        });
        holds("0: its reach, as a mask", () -> pairsOfSwaps(0));
        holds("1: the positions of its reach, how many", () -> pairsOfSwaps(1));
        holds("2: its period, told by doing it again and again", () -> pairsOfSwaps(2));
        holds("3: its period, told by rounds", () -> pairsOfSwaps(3));
        holds("4: 1 if they undo one another wholly (the reach is empty), otherwise 0", () -> pairsOfSwaps(4));
        holds("Returns the number.", () -> same("pair(0, 1, 0)", 19, fresh().pair(0, 1, 0)));
        holds("Throws `IndexOutOfBoundsException` if there is no such key", () -> {
            for (int key : new int[] {-1, 5, 6, LEAST, MOST}) {
                refused("pair(" + key + ", 0, 0)", INDEX, Locks::busy, x -> x.pair(key, 0, 0));
                refused("pair(0, " + key + ", 4)", INDEX, Locks::busy, x -> x.pair(0, key, 4));
            }
        });
        holds("Throws `IllegalArgumentException` if what is not 0 to 4", () -> {
            for (int what : new int[] {-1, 5, 6, LEAST, MOST}) {
                refused("pair(0, 1, " + what + ")", ARGUMENT, Locks::busy, x -> x.pair(0, 1, what));
                refused("pair(4, 4, " + what + ")", ARGUMENT, Locks::busy, x -> x.pair(4, 4, what));
            }
        });
    }

    private void pairIsOfTurns() {
        PairedTumblers x = new PairedTumblers();
        for (int first = 0; first < 5; first++) {
            for (int second = 0; second < 5; second++) {
                write(x, "[" + (char) ('a' + first) + "," + (char) ('a' + second) + "]");
                same("reach of the pair as a word", x.ofWord(1), x.pair(first, second, 0));
                same("period of the pair as a word", x.ofWord(2), x.pair(first, second, 2));
                same("the same by rounds", x.ofWord(3), x.pair(first, second, 3));
            }
        }
        same("nothing is turned", 0, x.count(0));
    }

    /** Keys 0 and 1 have one common position, 2 has none with them, and 3 has the positions of 0. */
    private void pairsOfSwaps(int what) {
        PairedTumblers x = turned("abCd");
        int[] masks = {3, 6, 48, 3, 51};
        int[] strengths = {0, 0, 4, 2, 0};
        for (int k = 0; k < 5; k++) {
            x.cut(k, masks[k], strengths[k]);
        }
        x.stick(0);
        int[][] due = {{7, 3, 3, 3, 0}, {7, 3, 3, 3, 0}, {0, 0, 1, 1, 1}, {0, 0, 1, 1, 1}, {0, 0, 1, 1, 1}, {0, 0, 1, 1, 1}};
        int[][] pairs = {{0, 1}, {1, 0}, {0, 2}, {0, 3}, {2, 2}, {4, 4}};
        for (int i = 0; i < pairs.length; i++) {
            int first = pairs[i][0];
            int second = pairs[i][1];
            same("pair(" + first + ", " + second + ", " + what + ")", due[i][what], x.pair(first, second, what));
        }
        x.cut(0, 63, 0);
        x.cut(1, 33, 1);
        // The pair hands the discs of 0, 4 and 5 round, with the notches 0, 4 and 1: a round of 3, since 5 is a multiple of 5.
        int[] handed = {49, 3, 3, 3, 0};
        same("pair of a swap and of all, " + what, handed[what], x.pair(1, 0, what));
    }

    // ---- promise 18

    private void allOfOfWord() {
        under("Promise 18: ofWord");
        holds("Tells of the word in the buffer.", () -> {
            PairedTumblers x = busyWith("(ab)2C");
            same("turns", 5, x.ofWord(0));
            same("done so far", 4, x.count(0));
            same("the buffer stays", 6, x.clearBuffer());
        });
        holds("0: its turns, how many, but 9999 if there are more", this::turnsOfWords);
        holds("1: its reach, as a mask", () -> {
            wordTells("aA", 1, 0);
            wordTells("a", 1, 11);
            wordTells("[a,b]", 1, 19);
            wordTells("ae", 1, 59);
            wordTells("(a)3", 1, 11);
            // Discs 1 and 3 come back with 1 + 3 + 1 and 1 + 4 notches, disc 4 with 2 + 1.
            wordTells("abcde", 1, 53);
        });
        holds("2: its period, told by doing it again and again", () -> periodsOfWords(2));
        holds("3: its period, told by rounds", () -> periodsOfWords(3));
        holds("4: the turns of its keys, less those back, together", () -> {
            wordTells("a", 4, 1);
            wordTells("A", 4, -1);
            wordTells("aB", 4, 0);
            wordTells("[abc,d]", 4, 0);
            wordTells("((((A)5)5)5)4", 4, -500);
            wordTells(FIVE_HUNDRED, 4, 500);
        });
        holds("Returns the number; NONE for 1 to 4 if it has more than 500 turns.", this::noneOfLongWords);
        holds("Throws `IllegalArgumentException` if what is not 0 to 4, or the buffer is not a complete word as a text",
            this::ofWordThrows);
    }

    private static PairedTumblers busyWith(String text) {
        PairedTumblers x = busy();
        write(x, text);
        return x;
    }

    private void wordTells(String text, int what, int due) {
        same("ofWord(" + what + ") of " + text, due, with(text).ofWord(what));
    }

    private void turnsOfWords() {
        wordTells("a", 0, 1);
        wordTells("e".repeat(60), 0, 60);
        wordTells(FIVE_HUNDRED, 0, 500);
        wordTells(FIVE_HUNDRED + "a", 0, 501);
        String nearly = "((((a)9)9)9)9((((a)7)7)7)7((((a)8)8)8)2";
        wordTells(nearly + "a".repeat(12), 0, 9998);
        wordTells(nearly + "a".repeat(13), 0, 9999);
        wordTells(nearly + "a".repeat(14), 0, 9999);
        wordTells("[(((ab)9)9)9,a]", 0, 2918);
    }

    private void periodsOfWords(int what) {
        wordTells("aA", what, 1);
        wordTells("a", what, 15);
        wordTells("(a)3", what, 5);
        wordTells("(a)5", what, 3);
        wordTells("[a,b]", what, 3);
        wordTells("((((a)5)5)5)4", what, 3);
        PairedTumblers x = cutAlike(63, 1);
        write(x, "a");
        same("the longest of one key", 30, x.ofWord(what));
        x.turn(0);
        x.stick(0);
        same("wherever the discs are", 30, x.ofWord(what));
    }

    private void noneOfLongWords() {
        for (int i = 0; i <= 4; i++) {
            int what = i;
            same("NONE for " + what + " of 500 turns", 0, with(FIVE_HUNDRED).ofWord(what) == PairedTumblers.NONE ? 1 : 0);
            int due = what == 0 ? 501 : PairedTumblers.NONE;
            wordTells(FIVE_HUNDRED + "a", what, due);
            wordTells("a" + FIVE_HUNDRED, what, due);
            wordTells("[((ab)9)9,((c)9)9(d)8]", what, what == 0 ? 502 : PairedTumblers.NONE);
            wordTells("((((a)9)9)9)9((((a)9)9)9)9", what, what == 0 ? 9999 : PairedTumblers.NONE);
        }
    }

    private void ofWordThrows() {
        for (int what : new int[] {-1, 5, 6, LEAST, MOST}) {
            refused("ofWord(" + what + ")", ARGUMENT, () -> busyWith("a"), x -> x.ofWord(what));
            refused("ofWord(" + what + ") of no word", ARGUMENT, () -> busyWith("("), x -> x.ofWord(what));
        }
        for (String text : new String[] {"", "(", "(a", "(a)", "[a", "[a,", "[a,b", "a]", "!", "((((a)9)9)9)9("}) {
            for (int i = 0; i <= 4; i++) {
                int what = i;
                refused("ofWord(" + what + ") of " + text, ARGUMENT, () -> busyWith(text), x -> x.ofWord(what));
            }
        }
    }

    // ---- promise 19

    private void allOfCount() {
        under("Promise 19: count");
        holds("Returns a number.", () -> same("count(3)", 6, fresh().count(3)));
        holds("0: turns so far, back too", () -> {
            same("none", 0, fresh().count(0));
            PairedTumblers x = turned("aBB");
            same("three", 3, x.count(0));
            doWord(x, FIVE_HUNDRED);
            x.home();
            same("503", 503, x.count(0));
            same("not what can not be turned", 4, busyRefused().count(0));
        });
        holds("1: the notches of all discs together, modulo 5", this::notchesTogether);
        holds("2: the same, told by what was turned: for each turn since the beginning, or the latest home(), "
            + "the strength times the positions of the key, as it was then, less that of each turn back, "
            + "modulo 5 (0 to 4)", this::notchesByTurns);
        holds("3: discs that are where they were at first, with the notch 0", () -> {
            same("all", 6, fresh().count(3));
            same("three", 3, turned("a").count(3));
            PairedTumblers x = cutAlike(3, 1);
            doLetters(x, "aa");
            same("where they were, with another notch", 4, x.count(3));
            x = cutAlike(3, 0);
            x.turn(0);
            same("elsewhere, with the notch 0", 4, x.count(3));
            x.cut(0, 63, 1);
            x.home();
            x.turn(0);
            same("none", 0, x.count(3));
        });
        holds("4: 1 if the lock opens (all is as in the secret), otherwise 0", () -> secretCounts(4, 0, 0, 1));
        holds("5: discs that are as in the secret", () -> secretCounts(5, 0, 5, 6));
        holds("6: positions that are stuck", this::stuckPositions);
        holds("7: keys that can not be turned", this::stuckKeys);
        holds("8: turns so far, by turn(), back() and word(), behind which the lock opened, "
            + "though it did not ahead of them", this::openings);
        holds("9: saved states", () -> {
            same("none", 0, fresh().count(9));
            same("some", 3, turned("abc").count(9));
            same("six", 6, turned("abcABC").count(9));
            same("no more", 6, turned("abcABCa").count(9));
        });
        holds("Returns the number; 0 for 4 and 5 without a secret.", this::withoutSecret);
        holds("Throws `IllegalArgumentException` if what is not 0 to 9", () -> {
            for (int what : new int[] {-1, 10, 11, LEAST, MOST}) {
                refused("count(" + what + ")", ARGUMENT, Locks::busy, x -> x.count(what));
            }
        });
    }

    private static PairedTumblers busyRefused() {
        PairedTumblers x = busy();
        answer(x, y -> y.turn(1));
        answer(x, y -> y.back(4));
        answer(x, y -> y.turn(5));
        doWord(x, "bea");
        return x;
    }

    private void notchesTogether() {
        PairedTumblers x = new PairedTumblers();
        for (int sum = 0; sum < 25; sum++) {
            same("count(1) of " + sum, sum % 5, x.count(1));
            addOneNotch(x, sum % 6);
        }
        same("behind the wrap-around of a notch", 0, x.count(1));
    }

    private void notchesByTurns() {
        same("at first", 0, fresh().count(2));
        same("3 by turn(0)", 3, turned("a").count(2));
        same("12 by turn(3)", 2, turned("d").count(2));
        same("3 less than 0", 2, turned("A").count(2));
        same("12 less than 0", 3, turned("D").count(2));
        same("a multiple of 5 less than 0", 0, turned("AAAAA").count(2));
        PairedTumblers x = cutAlike(63, 4);
        for (int n = 1; n <= 12; n++) {
            x.back(n % 5);
            same("24 less each time", Math.floorMod(-24 * n, 5), x.count(2));
        }
        x.cut(0, 3, 1);
        same("the keys as they were then", Math.floorMod(-24 * 12, 5), x.count(2));
        x.turn(0);
        same("the key as it is then", Math.floorMod(-24 * 12 + 2, 5), x.count(2));
        x.home();
        same("since the latest home()", 0, x.count(2));
        x.back(0);
        same("since then", 3, x.count(2));
        x.undo();
        x.undo();
        same("undo() of home()", Math.floorMod(-24 * 12 + 2, 5), x.count(2));
        doWord(x, "[a,b]aa");
        same("by word()", Math.floorMod(-24 * 12 + 6, 5), x.count(2));
        same("told alike", x.count(1), x.count(2));
    }

    /** What is told without a secret, with all discs but one as in it, and with all. */
    private void secretCounts(int what, int without, int withFive, int withAll) {
        PairedTumblers x = new PairedTumblers();
        same("without a secret", without, x.count(what));
        x.learn();
        same("all as in the secret", withAll, x.count(what));
        addOneNotch(x, 3);
        same("one with another notch", withFive, x.count(what));
        x.home();
        same("all again", withAll, x.count(what));
        x.cut(0, 63, 0);
        x.turn(0);
        same("none", 0, x.count(what));
    }

    private void stuckPositions() {
        PairedTumblers x = new PairedTumblers();
        for (int p = 0; p < 6; p++) {
            same("count(6)", p, x.count(6));
            x.stick(p);
        }
        same("all", 6, x.count(6));
        x.stick(2);
        same("one is freed", 5, x.count(6));
    }

    private void stuckKeys() {
        PairedTumblers x = new PairedTumblers();
        same("none", 0, x.count(7));
        x.stick(5);
        same("keys 2 and 4", 2, x.count(7));
        x.stick(0);
        same("and 0 and 3", 4, x.count(7));
        x.stick(1);
        same("all", 5, x.count(7));
        x.cut(1, 24, 0);
        same("but one that is cut anew", 4, x.count(7));
        for (int p = 2; p < 5; p++) {
            x.stick(p);
        }
        same("all, with all positions stuck", 5, x.count(7));
    }

    private void openings() {
        PairedTumblers x = new PairedTumblers();
        doLetters(x, "aA");
        same("without a secret", 0, x.count(8));
        x.learn();
        same("learn() is no turn", 0, x.count(8));
        x.turn(0);
        same("away", 0, x.count(8));
        x.back(0);
        same("by back()", 1, x.count(8));
        doLetters(x, "Aa");
        same("by turn()", 2, x.count(8));
        doWord(x, "aAbBc");
        same("each turn within word()", 4, x.count(8));
        x.home();
        same("home() is no turn", 4, x.count(8));
        x.keep();
        x.turn(1);
        x.goBack();
        x.turn(1);
        x.undo();
        same("goBack() and undo() are no turns", 4, x.count(8));
        doLetters(x, "aA");
        same("one more", 5, x.count(8));
        x.undo();
        same("it is undone", 4, x.count(8));
    }

    private void withoutSecret() {
        PairedTumblers x = new PairedTumblers();
        same("count(4) at first", 0, x.count(4));
        same("count(5) at first", 0, x.count(5));
        x.turn(0);
        x.learn();
        x.undo();
        same("count(4) behind undo() of learn()", 0, x.count(4));
        same("count(5) behind undo() of learn()", 0, x.count(5));
        x.keep();
        x.learn();
        same("count(5) with a secret", 6, x.count(5));
        x.goBack();
        same("count(4) behind goBack() to none", 0, x.count(4));
        same("count(5) behind goBack() to none", 0, x.count(5));
    }
}
