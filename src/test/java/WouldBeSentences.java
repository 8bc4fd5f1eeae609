/** Promises 20 to 24: openIn, ifTurned, closest, openShare and meanNotch. */
final class WouldBeSentences extends SentenceTests {
    WouldBeSentences(Sentences sentences, Checks checks) {
        super(sentences, checks);
    }

    @Override
    void all() {
        allOfOpenIn();
        allOfIfTurned();
        allOfClosest();
        allOfShares();
    }

    // ---- promise 20

    private void allOfOpenIn() {
        under("Promise 20: openIn");
        holds("Tells the fewest turns until the lock opens.", this::fewestTurns);
        holds("0: how many, back ones too, of keys that can be turned, at most 4", this::atMostFour);
        holds("1: the first one of such turns: the key, or 5 and the key if it is turned back, "
            + "of several the least number", this::firstTurn);
        holds("Returns the number; NONE without a secret, or if 4 turns are not enough; for 1 also if it opens now.",
            this::noTurns);
        holds("Throws `IllegalArgumentException` if what is not 0 or 1", () -> {
            for (int what : new int[] {-1, 2, 3, LEAST, MOST}) {
                refused("openIn(" + what + ")", ARGUMENT, Locks::busy, x -> x.openIn(what));
                refused("openIn(" + what + ") without a secret", ARGUMENT, Locks::fresh, x -> x.openIn(what));
            }
        });
    }

    private void opensIn(String call, PairedTumblers x, int fewest, int first) {
        same("openIn(0) " + call, fewest, x.openIn(0));
        same("openIn(1) " + call, first, x.openIn(1));
    }

    /** All five keys are one, with the period 30: n turns away is n turns back. */
    private static PairedTumblers oneKey() {
        PairedTumblers x = cutAlike(63, 1);
        x.learn();
        return x;
    }

    private void fewestTurns() {
        PairedTumblers x = new PairedTumblers();
        x.learn();
        doLetters(x, "eBaD");
        opensIn("behind eBaD", x, 4, 3);
        x.turn(3);
        opensIn("behind eBa", x, 3, 5);
        x.back(0);
        opensIn("behind eB", x, 2, 1);
        PairedTumblers round = cutAlike(7, 0);
        round.learn();
        doLetters(round, "aa");
        opensIn("one turn on and not two back", round, 1, 0);
        PairedTumblers there = cutAlike(63, 0);
        there.learn();
        doLetters(there, "aaaa");
        opensIn("two turns on and not four back", there, 2, 0);
    }

    private void atMostFour() {
        PairedTumblers x = oneKey();
        for (int n = 1; n <= 4; n++) {
            x.turn(n);
            opensIn("behind " + n + " turns", x, n, 5);
        }
        x.turn(0);
        opensIn("behind 5 turns", x, -1, -1);
        PairedTumblers y = oneKey();
        for (int n = 1; n <= 4; n++) {
            y.back(n);
            opensIn("behind " + n + " turns back", y, n, 0);
        }
        y.back(0);
        opensIn("behind 5 turns back", y, -1, -1);
        for (int k = 0; k < 5; k++) {
            oneKeyOfFive(k, true);
            oneKeyOfFive(k, false);
        }
        onlyKeysThatTurn();
    }

    /** The other keys turn no notch, so that this one alone has to be turned as often the other way. */
    private void oneKeyOfFive(int key, boolean back) {
        PairedTumblers x = cutAlike(3, 0);
        x.cut(key, 63, 1);
        x.learn();
        for (int n = 1; n <= 4; n++) {
            doLetters(x, "" + (char) ((back ? 'A' : 'a') + key));
            opensIn("behind " + n + " turns of key " + key, x, n, back ? key : 5 + key);
        }
        doLetters(x, "" + (char) ((back ? 'A' : 'a') + key));
        opensIn("behind 5 turns of key " + key, x, -1, -1);
    }

    private void onlyKeysThatTurn() {
        PairedTumblers x = cutAlike(48, 0);
        x.cut(0, 11, 1);
        x.learn();
        for (int n = 1; n <= 4; n++) {
            x.turn(0);
            opensIn("with key 0", x, n, 5);
            x.stick(3);
            opensIn("with key 0 stuck", x, -1, -1);
            x.stick(3);
            x.stick(4);
            opensIn("with the others stuck", x, n, 5);
            x.stick(1);
            opensIn("with all stuck", x, -1, -1);
            x.stick(1);
            x.stick(4);
        }
    }

    private void firstTurn() {
        for (int k = 0; k < 5; k++) {
            PairedTumblers x = new PairedTumblers();
            x.learn();
            x.turn(k);
            opensIn("behind turn(" + k + ")", x, 1, 5 + k);
            x.home();
            x.back(k);
            opensIn("behind back(" + k + ")", x, 1, k);
        }
        PairedTumblers either = cutAlike(3, 0);
        either.learn();
        either.turn(4);
        opensIn("by any key, either way", either, 1, 0);
        either.cut(0, 12, 0);
        opensIn("by any key but 0, either way", either, 1, 1);
        either.turn(0);
        opensIn("in either order", either, 2, 0);
        either.cut(1, 12, 0);
        either.cut(0, 3, 0);
        opensIn("in either order, of other keys", either, 2, 0);
        either.cut(0, 48, 0);
        either.cut(2, 48, 0);
        either.cut(3, 48, 0);
        opensIn("without key 0", either, 2, 1);
        fewestAheadOfLeast();
    }

    /** Two turns back of the key 1, 2, 3 or 4 open it; aaee would too, and begins with a lesser number. */
    private void fewestAheadOfLeast() {
        PairedTumblers x = cutAlike(63, 2);
        x.cut(0, 63, 1);
        x.learn();
        doLetters(x, "ee");
        opensIn("by two turns and not by four", x, 2, 6);
        doLetters(x, "aae");
        opensIn("at the last of the four", x, 1, 1);
    }

    private void noTurns() {
        PairedTumblers x = new PairedTumblers();
        opensIn("without a secret", x, -1, -1);
        x.learn();
        opensIn("if it opens now", x, 0, -1);
        for (int p = 0; p < 6; p++) {
            x.stick(p);
        }
        opensIn("if it opens now, with all keys stuck", x, 0, -1);
        PairedTumblers far = oneKey();
        doLetters(far, "abcde");
        opensIn("if 4 turns are not enough", far, -1, -1);
        far.learn();
        opensIn("with the secret there", far, 0, -1);
        PairedTumblers unlearnt = new PairedTumblers();
        unlearnt.learn();
        unlearnt.turn(0);
        opensIn("with a secret", unlearnt, 1, 5);
        unlearnt.undo();
        unlearnt.undo();
        opensIn("behind undo() of learn()", unlearnt, -1, -1);
    }

    // ---- promise 21

    private void allOfIfTurned() {
        under("Promise 21: ifTurned");
        holds("Tells how many discs would be as in the secret.", () -> {
            PairedTumblers x = new PairedTumblers();
            x.learn();
            x.turn(2);
            same("all by turning it back", 6, x.ifTurned(2, 1));
            same("all by it once more", 6, x.ifTurned(2, 1));
            same("three by turning it on", 3, x.ifTurned(2, 0));
            stands("ifTurned()", x, 15243, 3303);
            same("nothing is turned", 1, x.count(0));
            same("nothing is saved", 2, x.count(9));
        });
        holds("`key`: 0 to 4", () -> {
            for (int k = 0; k < 5; k++) {
                PairedTumblers x = new PairedTumblers();
                x.learn();
                same("ifTurned(" + k + ", 0)", 3, x.ifTurned(k, 0));
                x.turn(k);
                same("ifTurned(" + k + ", 1)", 6, x.ifTurned(k, 1));
            }
        });
        holds("`back`: 0 if the key was turned, 1 if it was turned back, whether it can be or not", () -> {
            PairedTumblers x = new PairedTumblers();
            x.learn();
            x.back(3);
            same("turned", 6, x.ifTurned(3, 0));
            same("turned back", 3, x.ifTurned(3, 1));
            x.stick(3);
            same("turned, though it is stuck", 6, x.ifTurned(3, 0));
            same("turned back, though it is stuck", 3, x.ifTurned(3, 1));
        });
        holds("Returns how many; 0 without a secret.", () -> {
            PairedTumblers x = new PairedTumblers();
            x.turn(0);
            same("home, without a secret", 0, x.ifTurned(0, 1));
            x.cut(1, 63, 0);
            x.learn();
            same("none", 0, x.ifTurned(1, 0));
            x.undo();
            same("behind undo() of learn()", 0, x.ifTurned(0, 1));
        });
        holds("Throws `IndexOutOfBoundsException` if there is no such key", () -> {
            for (int key : new int[] {-1, 5, 6, 9, LEAST, MOST}) {
                refused("ifTurned(" + key + ", 0)", INDEX, Locks::busy, x -> x.ifTurned(key, 0));
                refused("ifTurned(" + key + ", 1)", INDEX, Locks::busy, x -> x.ifTurned(key, 1));
            }
        });
        holds("Throws `IllegalArgumentException` if back is not 0 or 1", () -> {
            for (int back : new int[] {-1, 2, 3, LEAST, MOST}) {
                refused("ifTurned(0, " + back + ")", ARGUMENT, Locks::busy, x -> x.ifTurned(0, back));
                refused("ifTurned(4, " + back + ") without a secret", ARGUMENT, Locks::fresh, x -> x.ifTurned(4, back));
            }
        });
    }

    // ---- promise 22

    private void allOfClosest() {
        under("Promise 22: closest");
        holds("Finds the two keys that undo one another most.", () -> same("at first", 1, fresh().closest()));
        holds("Returns 5 times the first key and the second one, the first one less than the second one, "
            + "of the pair with the fewest positions in its reach, of several the least number.", this::closestPairs);
    }

    private void closestPairs() {
        same("all alike, the least number", 1, cutAlike(3, 0).closest());
        for (int first = 0; first < 5; first++) {
            for (int second = first + 1; second < 5; second++) {
                onlyPair(first, second);
            }
        }
        PairedTumblers x = onlyPair(0, 4);
        x.cut(3, 12, 0);
        same("of two pairs without reach the least number", 3, x.closest());
        for (int k = 0; k < 5; k++) {
            PairedTumblers y = new PairedTumblers();
            y.cut(k, 63, k);
            y.cut((k + 2) % 5, 3 << k, 1);
            same("closest() by pair(), with the keys " + k + " and " + (k + 2) % 5 + " cut anew", closestByPairs(y), y.closest());
        }
    }

    private static int closestByPairs(PairedTumblers x) {
        int best = -1;
        for (int i = 4; i >= 0; i--) {
            for (int j = 4; j > i; j--) {
                if (best < 0 || x.pair(i, j, 1) <= x.pair(best / 5, best % 5, 1)) {
                    best = 5 * i + j;
                }
            }
        }
        return best;
    }

    /** The two keys have no common position; every two others have one, so that their pair hands three discs round. */
    private PairedTumblers onlyPair(int first, int second) {
        int[] others = {0b000110, 0b001010, 0b010010};
        PairedTumblers x = new PairedTumblers();
        int next = 0;
        for (int k = 0; k < 5; k++) {
            x.cut(k, k == first ? 0b000011 : k == second ? 0b011100 : others[next++], 0);
        }
        int found = 0;
        for (int i = 0; i < 5; i++) {
            for (int j = i + 1; j < 5; j++) {
                found += x.pair(i, j, 1) == 0 ? 1 : 0;
            }
        }
        same("pairs without reach", 1, found);
        same("closest()", 5 * first + second, x.closest());
        return x;
    }

    // ---- promises 23 and 24

    private void allOfShares() {
        under("Promise 23: openShare");
        holds("Returns how many discs are as in the secret.", () -> {
            PairedTumblers x = new PairedTumblers();
            sameShare("without a secret", 0.0, x.openShare());
            x.learn();
            sameShare("all", 1.0, x.openShare());
        });
        holds("Returns count(5) as a double, divided by 6.", this::shares);
        under("Promise 24: meanNotch");
        holds("Returns the mean notch of the discs.", () -> {
            PairedTumblers x = cutAlike(63, 4);
            sameShare("the least", 0.0f, x.meanNotch());
            x.turn(0);
            sameShare("the most", 4.0f, x.meanNotch());
        });
        holds("Returns the notches of all discs as a float, divided by 6.", this::means);
    }

    private void shares() {
        PairedTumblers x = new PairedTumblers();
        x.learn();
        for (int left = 5; left >= 0; left--) {
            addOneNotch(x, left);
            same("discs as in the secret", left, x.count(5));
            sameShare("openShare() of " + left, (double) left / 6, x.openShare());
        }
    }

    private void means() {
        PairedTumblers x = new PairedTumblers();
        for (int sum = 0; sum <= 24; sum++) {
            sameShare("meanNotch() of " + sum, (float) sum / 6, x.meanNotch());
            addOneNotch(x, sum % 6);
        }
        sameShare("meanNotch() of 20", 20.0f / 6.0f, x.meanNotch());
    }
}
