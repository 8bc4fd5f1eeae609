/** Promises 9 to 14: append, clearBuffer, firstError, keep, goBack and undo. */
final class BufferSentences extends SentenceTests {
    BufferSentences(Sentences sentences, Checks checks) {
        super(sentences, checks);
    }

    @Override
    void all() {
        allOfAppend();
        allOfClearBuffer();
        allOfFirstError();
        allOfKeep();
        allOfGoBack();
        allOfUndo();
    }

    // ---- promise 9

    private void allOfAppend() {
        under("Promise 9: append");
        holds("Appends a character to the buffer.", this::appends);
        holds("`code`: the character code, 33 to 126", () -> {
            for (int code = 33; code <= 126; code++) {
                PairedTumblers x = new PairedTumblers();
                same("append(" + code + ")", 1, x.append(code));
            }
        });
        holds("Returns the new length of the buffer.", () -> {
            PairedTumblers x = new PairedTumblers();
            for (int n = 1; n <= 60; n++) {
                same("append()", n, x.append(33 + n));
            }
        });
        holds("Throws `IllegalArgumentException` if code is not 33 to 126", () -> {
            for (int code : new int[] {32, 127, 128, 0, -1, 97 + 256, 97 + 65536, -65536 + 97, LEAST, MOST}) {
                refused("append(" + code + ")", ARGUMENT, Locks::busy, x -> x.append(code));
                refused("append(" + code + ") to 60", ARGUMENT, BufferSentences::full, x -> x.append(code));
            }
        });
        holds("Throws `IllegalStateException` if the buffer has 60 characters", () -> {
            refused("append('a') to 60", STATE, BufferSentences::full, x -> x.append('a'));
            refused("append(33) to 60", STATE, BufferSentences::full, x -> x.append(33));
            same("append() to 59", 60, with("a".repeat(59)).append('a'));
            PairedTumblers x = full();
            x.clearBuffer();
            same("append() behind clearBuffer() of 60", 1, x.append('a'));
        });
    }

    private static PairedTumblers full() {
        PairedTumblers x = busy();
        write(x, "a".repeat(60));
        return x;
    }

    private void appends() {
        PairedTumblers x = new PairedTumblers();
        add(x, "abC");
        same("three turns", 3, x.ofWord(0));
        x.append('e');
        same("four turns", 4, x.word());
        PairedTumblers y = new PairedTumblers();
        doLetters(y, "abCe");
        stands("the word appended", x, discs(y), notches(y));
        same("nothing is saved by append()", 1, x.count(9));
    }

    // ---- promise 10

    private void allOfClearBuffer() {
        under("Promise 10: clearBuffer");
        holds("Clears the buffer.", () -> {
            PairedTumblers x = with("a(b");
            x.clearBuffer();
            same("no error is left", 0, x.firstError());
            x.append('e');
            same("a word of its own", 1, x.ofWord(0));
            refused("word() behind clearBuffer()", ARGUMENT, BufferSentences::cleared, PairedTumblers::word);
        });
        holds("Returns the length that it had.", () -> {
            PairedTumblers x = full();
            same("of the longest", 60, x.clearBuffer());
            same("of an empty one", 0, x.clearBuffer());
            x.append('!');
            same("of one", 1, x.clearBuffer());
        });
    }

    private static PairedTumblers cleared() {
        PairedTumblers x = with("ab");
        x.clearBuffer();
        return x;
    }

    // ---- promise 11

    private void allOfFirstError() {
        under("Promise 11: firstError");
        holds("Finds the first syntax error of the buffer.", () -> {
            same("of three", 1, with("a!!b!").firstError());
            PairedTumblers x = with("(a)!");
            same("again", x.firstError(), x.firstError());
            same("the buffer stays", 4, x.clearBuffer());
        });
        holds("Returns the index of the first character that is a syntax error; ", () -> {
            same("the first one", 0, with("!").firstError());
            same("the last one", 3, with("(a)!").firstError());
            same("the last one of 60", 59, with("a".repeat(59) + ",").firstError());
            same("one between", 2, with("(a,b)2").firstError());
        });
        holds("the length of the buffer if there is none.", () -> {
            same("an empty buffer", 0, new PairedTumblers().firstError());
            same("a word", 6, with("(a)2bc").firstError());
            same("what is no word yet", 4, with("[a,(").firstError());
            same("60 characters", 60, with("e".repeat(60)).firstError());
        });
    }

    // ---- promise 12

    private void allOfKeep() {
        under("Promise 12: keep");
        holds("Takes a snapshot of the state (of all that undo() would restore), in place of the one that was.",
            this::keepsAll);
        holds("Returns how many turns were done so far.", () -> {
            PairedTumblers x = new PairedTumblers();
            same("none", 0, x.keep());
            doLetters(x, "aB");
            doWord(x, "(c)9");
            same("eleven", 11, x.keep());
            x.undo();
            same("without those undone", 2, x.keep());
            x.home();
            same("home() is none, and takes none back", 2, x.keep());
        });
    }

    private void keepsAll() {
        PairedTumblers x = busy();
        x.keep();
        PairedTumblers y = busy();
        y.keep();
        spoil(x);
        x.goBack();
        for (int what = 0; what <= 8; what++) {
            same("count(" + what + ")", y.count(what), x.count(what));
        }
        stands("goBack()", x, discs(y), notches(y));
        for (int k = 0; k < 5; k++) {
            for (int what = 0; what <= 5; what++) {
                same("key(" + k + ", " + what + ")", y.key(k, what), x.key(k, what));
            }
        }
        same("stuck", row(y, 2), row(x, 2));
        same("as in the secret", row(y, 3), row(x, 3));
        same("the buffer is not in the snapshot", 1, x.clearBuffer());
        same("the saved states are not in the snapshot", 6, x.count(9));
        notUndoable("keep()", PairedTumblers::keep);
    }

    /** Makes all other than it was. */
    private static void spoil(PairedTumblers x) {
        doLetters(x, "aCd");
        x.home();
        x.stick(0);
        x.stick(4);
        x.learn();
        for (int k = 0; k < 5; k++) {
            x.cut(k, 48, 3);
        }
        doLetters(x, "aA");
        write(x, "e");
    }

    // ---- promise 13

    private void allOfGoBack() {
        under("Promise 13: goBack");
        holds("Goes back to the snapshot, which stays.", () -> {
            PairedTumblers x = new PairedTumblers();
            x.turn(0);
            x.keep();
            for (int i = 0; i < 3; i++) {
                doLetters(x, "bcd");
                x.home();
                same("goBack() " + i, 1, x.goBack());
                stands("goBack()", x, 302145, 110100);
                same("turns told by notches", 3, x.count(2));
            }
            x.turn(4);
            x.keep();
            x.turn(4);
            same("to the newer snapshot", 2, x.goBack());
        });
        holds("Undoable.", () -> undoable("goBack()", PairedTumblers::goBack));
        holds("Returns how many turns were done so far then.", () -> {
            PairedTumblers x = new PairedTumblers();
            x.keep();
            doLetters(x, "abc");
            same("none", 0, x.goBack());
            same("count(0)", 0, x.count(0));
            doWord(x, "(c)9");
            x.keep();
            x.undo();
            same("more than ahead of it", 9, x.goBack());
        });
        holds("Throws `IllegalStateException` if there is no snapshot", () -> {
            refused("goBack() on a new object", STATE, Locks::fresh, PairedTumblers::goBack);
            refused("goBack() without keep()", STATE, BufferSentences::unkept, PairedTumblers::goBack);
        });
    }

    private static PairedTumblers unkept() {
        PairedTumblers x = new PairedTumblers();
        x.learn();
        doLetters(x, "abcdeA");
        x.stick(0);
        add(x, "[a,b]");
        return x;
    }

    // ---- promise 14

    private void allOfUndo() {
        under("Promise 14: undo");
        holds("Restores the latest saved state, and drops it.", () -> {
            PairedTumblers x = new PairedTumblers();
            doLetters(x, "ab");
            x.undo();
            stands("undo() of b", x, 302145, 110100);
            x.undo();
            stands("undo() of a", x, 12345, 0);
            x.turn(4);
            x.undo();
            stands("undo() is not undoable", x, 12345, 0);
            same("none is left", 0, x.count(9));
        });
        holds("Returns how many saved states are left.", () -> {
            PairedTumblers x = busy();
            for (int left = 5; left >= 0; left--) {
                same("undo()", left, x.undo());
                same("count(9)", left, x.count(9));
            }
        });
        holds("Throws `IllegalStateException` if there is none", () -> {
            refused("undo() on a new object", STATE, Locks::fresh, PairedTumblers::undo);
            refused("undo() of one more than is saved", STATE, BufferSentences::undone, PairedTumblers::undo);
        });
    }

    private static PairedTumblers undone() {
        PairedTumblers x = unkept();
        x.keep();
        for (int i = 0; i < 6; i++) {
            x.undo();
        }
        return x;
    }
}
