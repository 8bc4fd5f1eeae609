/** Promises 1 to 5: a new object, turn, back, word and home. */
final class TurnsSentences extends SentenceTests {
    private static final String FIVE_HUNDRED = "((((ab)5)5)5)2";
    private static final int[] TURNED_DISCS = {302145, 41325, 15243, 412035, 52314};
    private static final int[] TURNED_NOTCHES = {110100, 22020, 3303, 400440, 10011};
    private static final int[] BACK_DISCS = {132045, 24315, 13542, 312405, 42351};
    private static final int[] BACK_NOTCHES = {440400, 33030, 2202, 100110, 40044};

    TurnsSentences(Sentences sentences, Checks checks) {
        super(sentences, checks);
    }

    @Override
    void all() {
        allOfNewObject();
        allOfTurn();
        allOfBack();
        allOfWord();
        allOfHome();
    }

    // ---- promise 1

    private void allOfNewObject() {
        under("Promise 1: A new object");
        holds("Creates discs and keys as told above, without a secret, with an empty buffer and no snapshot.",
            this::newObject);
    }

    private void newObject() {
        PairedTumblers x = new PairedTumblers();
        stands("nothing", x, 12345, 0);
        same("no secret, count(4)", 0, x.count(4));
        same("no secret, count(5)", 0, x.count(5));
        same("no secret, at(p, 3)", 0, row(x, 3));
        same("no secret, openIn(0)", -1, x.openIn(0));
        same("nothing counted", 0, x.count(0) + x.count(2) + x.count(8) + x.count(9));
        same("no error in an empty buffer", 0, x.firstError());
        same("an empty buffer", 0, x.clearBuffer());
        refused("goBack()", STATE, Locks::fresh, PairedTumblers::goBack);
        refused("undo()", STATE, Locks::fresh, PairedTumblers::undo);
        refused("word()", ARGUMENT, Locks::fresh, PairedTumblers::word);
        PairedTumblers other = new PairedTumblers();
        doLetters(other, "abc");
        stands("turns of another object", x, 12345, 0);
    }

    // ---- promise 2

    private void allOfTurn() {
        under("Promise 2: turn");
        holds("Turns a key.", this::turnsAKey);
        holds("Undoable.", () -> undoable("turn(3)", x -> x.turn(3)));
        holds("`key`: 0 to 4", () -> {
            for (int k = 0; k < 5; k++) {
                same("turn(" + k + ")", 0, fresh().turn(k));
            }
        });
        holds("Returns how many discs are as in the secret then; 0 without a secret.", this::turnReturns);
        holds("Throws `IndexOutOfBoundsException` if there is no such key", () -> {
            for (int key : new int[] {-1, 5, 6, 32, LEAST, MOST}) {
                refused("turn(" + key + ")", INDEX, Locks::busy, x -> x.turn(key));
            }
        });
        holds("Throws `IllegalStateException` if it can not be turned", () -> {
            refused("turn(1)", STATE, Locks::busy, x -> x.turn(1));
            refused("turn(4)", STATE, Locks::busy, x -> x.turn(4));
            PairedTumblers freed = busy();
            freed.turn(0);
            same("uses behind turn(0), not stuck", 3, freed.key(0, 5));
            freed.stick(4);
            freed.turn(1);
            same("uses behind turn(1), freed", 1, freed.key(1, 5));
        });
    }

    private void turnsAKey() {
        for (int k = 0; k < 5; k++) {
            PairedTumblers x = new PairedTumblers();
            x.turn(k);
            stands("turn(" + k + ")", x, TURNED_DISCS[k], TURNED_NOTCHES[k]);
            same("turns", 1, x.count(0));
            same("uses", 1, x.key(k, 5));
        }
    }

    private void turnReturns() {
        PairedTumblers x = new PairedTumblers();
        x.cut(0, 3, 0);
        same("away from home, no secret", 0, x.turn(0));
        same("home again, no secret", 0, x.turn(0));
        x.learn();
        same("four are left", 4, x.turn(0));
        same("all six then", 6, x.turn(0));
        x.cut(1, 63, 1);
        same("none", 0, x.turn(1));
        x.cut(2, 12, 1);
        x.home();
        same("other discs", 4, x.turn(2));
        same("the same discs with other notches", 4, x.turn(2));
        x.undo();
        same("two other keys away", 2, x.turn(0));
    }

    // ---- promise 3

    private void allOfBack() {
        under("Promise 3: back");
        holds("Turns a key back.", this::turnsAKeyBack);
        holds("Undoable.", () -> undoable("back(3)", x -> x.back(3)));
        holds("`key`: 0 to 4", () -> {
            for (int k = 0; k < 5; k++) {
                same("back(" + k + ")", 0, fresh().back(k));
            }
        });
        holds("Returns as turn().", this::backReturns);
        holds("Throws `IndexOutOfBoundsException` if there is no such key", () -> {
            for (int key : new int[] {-1, 5, 6, 32, LEAST, MOST}) {
                refused("back(" + key + ")", INDEX, Locks::busy, x -> x.back(key));
            }
        });
        holds("Throws `IllegalStateException` if it can not be turned back", () -> {
            refused("back(1)", STATE, Locks::busy, x -> x.back(1));
            refused("back(4)", STATE, Locks::busy, x -> x.back(4));
            PairedTumblers freed = busy();
            freed.stick(4);
            freed.back(4);
            same("uses behind back(4), freed", 1, freed.key(4, 5));
        });
    }

    private void turnsAKeyBack() {
        for (int k = 0; k < 5; k++) {
            PairedTumblers x = new PairedTumblers();
            x.back(k);
            stands("back(" + k + ")", x, BACK_DISCS[k], BACK_NOTCHES[k]);
            same("turns", 1, x.count(0));
            same("uses", 1, x.key(k, 5));
        }
    }

    private void backReturns() {
        PairedTumblers x = new PairedTumblers();
        x.turn(0);
        same("home again, no secret", 0, x.back(0));
        x.learn();
        same("three are left", 3, x.back(0));
        same("all six then", 6, x.turn(0));
        x.turn(1);
        same("all six by back()", 6, x.back(1));
        x.cut(1, 63, 1);
        same("none", 0, x.back(1));
    }

    // ---- promise 4

    private void allOfWord() {
        under("Promise 4: word");
        holds("Does the word in the buffer, up to the first turn that can not be done, and clears the buffer.",
            this::upToTheFirstStuck);
        holds("Undoable, also if none is done.", this::wordIsUndoable);
        holds("Returns how many turns are done.", this::wordReturns);
        holds("Throws `IllegalArgumentException` if the buffer is not a complete word as a text", () -> {
            for (String text : new String[] {"", "(", "(a", "(a)", "[", "[a", "[a,", "[a,b", "a]", "x", "ax", "(a)1"}) {
                refused("word() of " + text, ARGUMENT, () -> busyWith(text), PairedTumblers::word);
            }
        });
        holds("Throws `IllegalStateException` if the word has more than 500 turns", this::moreThanFiveHundred);
    }

    private static PairedTumblers busyWith(String text) {
        PairedTumblers x = busy();
        write(x, text);
        return x;
    }

    /** With position 5 stuck the keys 2 and 4 can not be turned. */
    private void upToTheFirstStuck() {
        String[] texts = {"cab", "acb", "abc", "aBa", "EEE", "(a)3(aC)3a", "a[b,c]d"};
        String[] done = {"", "a", "ab", "aBa", "", "aaaa", "ab"};
        for (int i = 0; i < texts.length; i++) {
            PairedTumblers x = new PairedTumblers();
            x.stick(5);
            same("word() of " + texts[i], done[i].length(), doWord(x, texts[i]));
            PairedTumblers y = new PairedTumblers();
            doLetters(y, done[i]);
            stands("the word " + texts[i], x, discs(y), notches(y));
            same("turns counted by " + texts[i], done[i].length(), x.count(0));
            same("the buffer behind " + texts[i], 0, x.clearBuffer());
        }
    }

    private void wordIsUndoable() {
        undoable("word()", PairedTumblers::word);
        PairedTumblers x = new PairedTumblers();
        x.turn(0);
        x.stick(0);
        same("word() of none", 0, doWord(x, "a"));
        same("saved", 3, x.count(9));
        same("undo() of none", 2, x.undo());
        same("it is that of word()", 1, x.at(0, 2));
        x.undo();
        same("the next one is that of stick()", 0, x.at(0, 2));
    }

    private void wordReturns() {
        PairedTumblers x = new PairedTumblers();
        same("one", 1, doWord(x, "a"));
        same("sixty", 60, doWord(x, "aA".repeat(30)));
        same("a repeat", 9, doWord(x, "(e)9"));
        same("a pair", 6, doWord(x, "[ab,c]"));
        same("as many as may be", 500, doWord(x, FIVE_HUNDRED));
        same("all of them", 576, x.count(0));
    }

    private void moreThanFiveHundred() {
        for (String text : new String[] {FIVE_HUNDRED + "a", "((((a)9)9)9)9", "[((ab)9)9,((c)9)9(d)8]", "e" + FIVE_HUNDRED}) {
            refused("word() of " + text, STATE, () -> busyWith(text), PairedTumblers::word);
        }
        same("500 turns", 500, doWord(fresh(), FIVE_HUNDRED));
        same("500 turns by a pair", 500, doWord(fresh(), "[(((a)5)5)5,(((b)5)5)5]"));
        same("500 turns, the first one stuck", 0, doWord(busy(), "e(((ab)5)5)9((a)7)7"));
    }

    // ---- promise 5

    private void allOfHome() {
        under("Promise 5: home");
        holds("Brings all discs to where they were at first, with the notch 0.", this::bringsHome);
        holds("Undoable.", () -> undoable("home()", PairedTumblers::home));
        holds("Returns how many discs were elsewhere, or had another notch.", this::homeReturns);
    }

    private void bringsHome() {
        PairedTumblers x = busy();
        same("the keys as they are cut", 41, x.key(3, 0));
        x.home();
        stands("home()", x, 12345, 0);
        same("turns stay", 4, x.count(0));
        same("openings stay", 1, x.count(8));
        same("stuck stays", 1, x.at(4, 2));
        same("keys stay", 41, x.key(3, 0));
        same("uses stay", 2, x.key(0, 5));
        same("the secret stays", 6, x.count(5));
        same("the buffer stays", 4, x.clearBuffer());
        same("the snapshot stays", 2, x.goBack());
    }

    private void homeReturns() {
        PairedTumblers x = cutAlike(3, 0);
        same("none", 0, x.home());
        x.turn(0);
        same("two elsewhere, with the notch 0", 2, x.home());
        x.cut(0, 33, 2);
        doLetters(x, "aa");
        same("two with another notch", 2, x.home());
        x.cut(1, 6, 0);
        doLetters(x, "aab");
        same("two of each", 4, x.home());
        x.cut(2, 63, 1);
        x.turn(2);
        same("all six", 6, x.home());
        addOneNotch(x, 5);
        same("one with another notch", 1, x.home());
        x.turn(0);
        x.stick(0);
        same("on stuck positions too", 2, x.home());
    }
}
