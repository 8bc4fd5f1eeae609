/** Promises 6 to 8: cut, stick and learn. */
final class KeysSentences extends SentenceTests {
    KeysSentences(Sentences sentences, Checks checks) {
        super(sentences, checks);
    }

    @Override
    void all() {
        allOfCut();
        allOfStick();
        allOfLearn();
    }

    // ---- promise 6

    private void allOfCut() {
        under("Promise 6: cut");
        holds("Cuts a key anew.", this::cutsAnew);
        holds("Undoable.", () -> undoable("cut(0, 63, 4)", x -> x.cut(0, 63, 4)));
        holds("`key`: 0 to 4", this::cutKeys);
        holds("`positions`: a mask of 2 to 6 positions", this::cutMasks);
        holds("`strength`: 0 to 4", () -> {
            for (int strength = 0; strength <= 4; strength++) {
                PairedTumblers x = cutAlike(3, strength);
                same("strength", strength, x.key(0, 1));
            }
        });
        holds("Returns the mask before.", this::cutReturns);
        holds("Throws `IndexOutOfBoundsException` if there is no such key", () -> {
            for (int key : new int[] {-1, 5, 6, LEAST, MOST}) {
                refused("cut(" + key + ", 3, 1)", INDEX, Locks::busy, x -> x.cut(key, 3, 1));
            }
            refused("cut(5, 0, 5)", INDEX, Locks::busy, x -> x.cut(5, 0, 5));
        });
        holds("Throws `IllegalArgumentException` if positions or strength is out of range", this::cutThrows);
    }

    private void cutsAnew() {
        PairedTumblers x = new PairedTumblers();
        x.cut(1, 33, 4);
        x.turn(1);
        stands("turn() of the key cut anew", x, 512340, 400004);
        x.back(1);
        x.turn(0);
        stands("turn() of another key", x, 302145, 110100);
        x.cut(1, 33, 0);
        stands("cut() itself", x, 302145, 110100);
        x.stick(5);
        x.cut(1, 3, 0);
        same("not stuck as it is cut now", 0, x.key(1, 4));
        x.cut(0, 33, 1);
        same("stuck as it is cut now", 1, x.key(0, 4));
    }

    private void cutKeys() {
        PairedTumblers x = new PairedTumblers();
        for (int k = 0; k < 5; k++) {
            x.cut(k, 3 << k, k);
        }
        for (int k = 0; k < 5; k++) {
            same("positions of key " + k, 3 << k, x.key(k, 0));
            same("strength of key " + k, k, x.key(k, 1));
        }
    }

    private void cutMasks() {
        int before = 11;
        PairedTumblers x = new PairedTumblers();
        for (int mask = 0; mask < 64; mask++) {
            if (Integer.bitCount(mask) >= 2) {
                same("cut(0, " + mask + ", 0)", before, x.cut(0, mask, 0));
                same("key(0, 0)", mask, x.key(0, 0));
                before = mask;
            }
        }
        for (int mask : new int[] {0, 1, 2, 4, 8, 16, 32}) {
            refused("cut(0, " + mask + ", 0)", ARGUMENT, Locks::busy, y -> y.cut(0, mask, 0));
        }
        for (int mask : new int[] {64, 67, 96, 127, 128 + 3, -1, -61, LEAST + 3, MOST}) {
            refused("cut(0, " + mask + ", 0)", ARGUMENT, Locks::busy, y -> y.cut(0, mask, 0));
        }
    }

    private void cutReturns() {
        PairedTumblers x = new PairedTumblers();
        same("at first", 50, x.cut(4, 63, 0));
        same("then", 63, x.cut(4, 3, 0));
        same("and then", 3, x.cut(4, 3, 0));
        same("of another key", 11, x.cut(0, 3, 0));
        x.undo();
        same("behind undo()", 11, x.cut(0, 3, 0));
    }

    private void cutThrows() {
        for (int strength : new int[] {-1, 5, 6, LEAST, MOST}) {
            refused("cut(0, 3, " + strength + ")", ARGUMENT, Locks::busy, x -> x.cut(0, 3, strength));
        }
        refused("cut(4, 32, 4)", ARGUMENT, Locks::busy, x -> x.cut(4, 32, 4));
        refused("cut(4, 64, 4)", ARGUMENT, Locks::busy, x -> x.cut(4, 64, 4));
        refused("cut(4, 0, 5)", ARGUMENT, Locks::busy, x -> x.cut(4, 0, 5));
    }

    // ---- promise 7

    private void allOfStick() {
        under("Promise 7: stick");
        holds("Lets a position be stuck, or frees it, if it is.", this::sticksAndFrees);
        holds("Undoable.", () -> {
            undoable("stick(0)", x -> x.stick(0));
            undoable("stick(5)", x -> x.stick(5));
        });
        holds("`position`: 0 to 5", () -> {
            int[] keys = {2, 3, 2, 3, 3, 2};
            for (int p = 0; p < 6; p++) {
                same("stick(" + p + ")", keys[p], fresh().stick(p));
            }
        });
        holds("Returns how many keys can not be turned then.", this::stickReturns);
        holds("Throws `IndexOutOfBoundsException` if there is no such position", () -> {
            for (int position : new int[] {-1, 6, 7, 31, 32, 64, LEAST, MOST}) {
                refused("stick(" + position + ")", INDEX, Locks::busy, x -> x.stick(position));
            }
        });
    }

    private void sticksAndFrees() {
        PairedTumblers x = new PairedTumblers();
        for (int p = 0; p < 6; p++) {
            x.stick(p);
            same("stuck", 1, x.at(p, 2));
            same("one alone", 1, x.count(6));
            x.stick(p);
            same("free", 0, x.at(p, 2));
            x.stick(p);
            same("stuck again", 1, x.at(p, 2));
            x.stick(p);
        }
        same("none is stuck", 0, row(x, 2));
    }

    private void stickReturns() {
        PairedTumblers x = cutAlike(3, 1);
        same("a position of no key", 0, x.stick(5));
        same("a position of all keys", 5, x.stick(0));
        same("two positions of the same keys", 5, x.stick(1));
        same("one is freed", 5, x.stick(0));
        same("both are freed", 0, x.stick(1));
        x.cut(0, 12, 1);
        same("all but one", 4, x.stick(1));
        for (int p = 2; p < 6; p++) {
            same("all", 5, x.stick(p));
        }
        same("all, with all positions stuck", 5, x.stick(0));
    }

    // ---- promise 8

    private void allOfLearn() {
        under("Promise 8: learn");
        holds("Makes the discs as they are the secret.", this::learnsAsTheyAre);
        holds("Undoable.", () -> {
            undoable("learn()", PairedTumblers::learn);
            PairedTumblers x = new PairedTumblers();
            x.learn();
            x.undo();
            same("no secret as before", 0, x.count(5));
            same("no secret as before, openIn(0)", -1, x.openIn(0));
        });
        holds("Returns the notches of all discs, together.", this::learnReturns);
    }

    private void learnsAsTheyAre() {
        PairedTumblers x = new PairedTumblers();
        doLetters(x, "aC");
        x.learn();
        same("it opens", 1, x.count(4));
        same("not counted as a turn that opens", 0, x.count(8));
        x.turn(3);
        same("the secret stays where it was", 3, x.count(5));
        x.home();
        same("home is another one", 0, x.count(4));
        x.learn();
        same("a new secret in place of the old one", 1, x.count(4));
    }

    private void learnReturns() {
        PairedTumblers x = new PairedTumblers();
        for (int sum = 0; sum < 24; sum++) {
            same("learn()", sum, x.learn());
            addOneNotch(x, sum % 6);
        }
        same("learn() of the most", 24, x.learn());
        addOneNotch(x, 0);
        same("learn() behind the most", 20, x.learn());
    }
}
