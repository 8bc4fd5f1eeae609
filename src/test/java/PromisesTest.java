import java.util.function.Supplier;
import java.util.function.ToLongFunction;

/** Each promise of the document by itself: ordinary inputs, the edges it names, wrong inputs; the answers reckoned by hand. */
public final class PromisesTest extends Locks {
    private static final Checks checks = new Checks("promises");

    public static void main(String[] args) {
        newObject();
        turn();
        back();
        word();
        wordStopsAtStuck();
        wordThrows();
        home();
        cut();
        stick();
        learn();
        append();
        clearBuffer();
        firstError();
        firstErrorInBrackets();
        keepAndGoBack();
        undo();
        undoRestoresAll();
        undoableMethods();
        at();
        key();
        pair();
        ofWord();
        ofWordBounds();
        count();
        countOpenings();
        openIn();
        openInWithStuck();
        ifTurned();
        closest();
        shares();
        digest();
        checks.end();
    }

    private static void same(String call, long due, long got) {
        checks.same(call, due, got);
    }

    /** Besides, a call that throws may not change anything. */
    private static void throwing(PairedTumblers x, String call, Class<? extends RuntimeException> due,
            ToLongFunction<PairedTumblers> made) {
        long ahead = x.digest();
        checks.throwing(call, due, () -> made.applyAsLong(x));
        same("digest() behind the exception of " + call, ahead, x.digest());
    }

    // ---- promise 1

    private static void newObject() {
        PairedTumblers x = new PairedTumblers();
        same("1: NONE", -1, PairedTumblers.NONE);
        same("1: discs", 12345, discs(x));
        same("1: notches", 0, notches(x));
        same("1: stuck positions", 0, row(x, 2));
        same("1: as in the secret", 0, row(x, 3));
        int[] masks = {11, 22, 44, 25, 50};
        int[] strengths = {1, 2, 3, 4, 1};
        for (int k = 0; k < 5; k++) {
            same("1: key(" + k + ", 0)", masks[k], x.key(k, 0));
            same("1: key(" + k + ", 1)", strengths[k], x.key(k, 1));
            same("1: key(" + k + ", 5)", 0, x.key(k, 5));
        }
        for (int what = 0; what <= 9; what++) {
            same("1: count(" + what + ")", what == 3 ? 6 : 0, x.count(what));
        }
        same("1: openIn(0)", -1, x.openIn(0));
        throwing(x, "1: goBack() on a new object", STATE, PairedTumblers::goBack);
        throwing(x, "1: undo() on a new object", STATE, PairedTumblers::undo);
        throwing(x, "1: ofWord(0) on a new object", ARGUMENT, y -> y.ofWord(0));
        same("1: clearBuffer()", 0, x.clearBuffer());
    }

    // ---- promises 2 and 3

    private static void turn() {
        PairedTumblers x = new PairedTumblers();
        same("2: turn(0) without a secret", 0, x.turn(0));
        same("2: discs behind turn(0)", 302145, discs(x));
        same("2: notches behind turn(0)", 110100, notches(x));
        same("2: turns", 1, x.count(0));
        same("2: saved", 1, x.count(9));
        x.learn();
        same("2: turn(4) with a secret", 3, x.turn(4));
        same("2: discs behind turn(4)", 352104, discs(x));
        same("2: notches behind turn(4)", 110121, notches(x));

        PairedTumblers y = new PairedTumblers();
        y.turn(3);
        y.turn(3);
        same("2: notches modulo 5", 300330, notches(y));
        same("2: discs handed on twice", 312405, discs(y));

        throwing(y, "2: turn(-1)", INDEX, z -> z.turn(-1));
        throwing(y, "2: turn(5)", INDEX, z -> z.turn(5));
        throwing(y, "2: turn(least)", INDEX, z -> z.turn(LEAST));
        throwing(y, "2: turn(most)", INDEX, z -> z.turn(MOST));
        y.stick(2);
        throwing(y, "2: turn(1) stuck", STATE, z -> z.turn(1));
        throwing(y, "2: turn(2) stuck", STATE, z -> z.turn(2));
        throwing(y, "2: turn(5) with a stuck position", INDEX, z -> z.turn(5));
        same("2: turn(0), not stuck", 0, y.turn(0));
    }

    private static void back() {
        PairedTumblers x = new PairedTumblers();
        same("3: back(0) without a secret", 0, x.back(0));
        same("3: discs behind back(0)", 132045, discs(x));
        same("3: notches behind back(0)", 440400, notches(x));
        same("3: turns", 1, x.count(0));
        same("3: saved", 1, x.count(9));
        PairedTumblers y = new PairedTumblers();
        y.learn();
        same("3: back(2)", 3, y.back(2));
        same("3: turn(2) behind it", 6, y.turn(2));
        for (int k = 0; k < 5; k++) {
            y.turn(k);
        }
        for (int k = 4; k > 0; k--) {
            y.back(k);
        }
        same("3: all turned back", 6, y.back(0));
        same("3: discs as they were", 12345, discs(y));
        throwing(y, "3: back(-1)", INDEX, z -> z.back(-1));
        throwing(y, "3: back(5)", INDEX, z -> z.back(5));
        throwing(y, "3: back(least)", INDEX, z -> z.back(LEAST));
        y.stick(0);
        throwing(y, "3: back(3) stuck", STATE, z -> z.back(3));
        same("3: back(1), not stuck", 3, y.back(1));
    }

    // ---- promise 4

    private static void word() {
        PairedTumblers x = new PairedTumblers();
        same("4: word a", 1, doWord(x, "a"));
        same("4: the buffer is cleared", 0, x.clearBuffer());
        same("4: discs behind a", 302145, discs(x));
        same("4: word A", 1, doWord(x, "A"));
        same("4: discs behind aA", 12345, discs(x));
        same("4: word (aE)3", 6, doWord(x, "(aE)3"));
        PairedTumblers y = new PairedTumblers();
        for (int i = 0; i < 3; i++) {
            y.turn(0);
            y.back(4);
        }
        same("4: (aE)3 as by hand, discs", discs(y), discs(x));
        same("4: (aE)3 as by hand, notches", notches(y), notches(x));
        same("4: turns", 8, x.count(0));
        same("4: uses of key 0", 5, x.key(0, 5));
        same("4: a word is one saved state", 3, x.count(9));

        PairedTumblers z = new PairedTumblers();
        same("4: pair [ab,cD]", 8, doWord(z, "[ab,cD]"));
        PairedTumblers w = new PairedTumblers();
        same("4: written out", 8, doWord(w, "abcDBAdC"));
        same("4: pair, discs", discs(w), discs(z));
        same("4: pair, notches", notches(w), notches(z));
    }

    private static void wordStopsAtStuck() {
        PairedTumblers x = new PairedTumblers();
        x.stick(5);
        same("4: up to the stuck key", 2, doWord(x, "aBcab"));
        same("4: no further", 2, x.count(0));
        same("4: cleared then too", 0, x.clearBuffer());
        same("4: none done", 0, doWord(x, "Ea"));
        same("4: saved also if none is done", 3, x.count(9));
        same("4: undo of none", 2, x.undo());
        same("4: still as behind the first", 2, x.count(0));
        x.undo();
        same("4: undo of the word", 12345, discs(x));
        same("4: the buffer stays cleared", 0, x.clearBuffer());
    }

    private static void wordThrows() {
        for (String text : new String[] {"", "(", "(a", "(a)", "[a", "[a,", "[a,b", "f", "ax", "a,", "(a)1", "((((ab)9)9)9)9("}) {
            throwing(with(text), "4: word() of " + text, ARGUMENT, PairedTumblers::word);
        }
        PairedTumblers x = new PairedTumblers();
        same("4: 500 turns", 500, doWord(x, "((((ab)5)5)5)2"));
        write(x, "((((ab)5)5)5)2c");
        throwing(x, "4: 501 turns", STATE, PairedTumblers::word);
        same("4: the buffer stays", 15, x.clearBuffer());
        write(x, "[((ab)9)9,(d)9(e)9]");
        same("4: 360 turns by a pair", 360, x.word());
        write(x, "[((ab)9)9,((d)9)9(e)8]");
        throwing(x, "4: 502 turns by a pair", STATE, PairedTumblers::word);
    }

    // ---- promise 5

    private static void home() {
        PairedTumblers x = new PairedTumblers();
        same("5: home at home", 0, x.home());
        same("5: saved also then", 1, x.count(9));
        x.turn(0);
        same("5: three discs", 3, x.home());
        same("5: discs", 12345, discs(x));
        same("5: notches", 0, notches(x));
        same("5: the turns stay", 1, x.count(0));
        x.cut(0, 3, 1);
        x.turn(0);
        x.turn(0);
        same("5: at home but for notches", 2, x.home());
        x.undo();
        same("5: undo of home", 220000, notches(x));
        x.stick(0);
        same("5: stuck discs too", 2, x.home());
    }

    // ---- promise 6

    private static void cut() {
        PairedTumblers x = new PairedTumblers();
        same("6: cut(2, 63, 4)", 44, x.cut(2, 63, 4));
        same("6: positions", 63, x.key(2, 0));
        same("6: strength", 4, x.key(2, 1));
        same("6: cut(2, 48, 0)", 63, x.cut(2, 48, 0));
        same("6: cut(2, 3, 0)", 48, x.cut(2, 3, 0));
        same("6: saved", 3, x.count(9));
        x.turn(2);
        same("6: the new key turns", 102345, discs(x));
        same("6: with strength 0", 0, notches(x));
        for (int positions : new int[] {0, 1, 2, 4, 32, 64, 65, 67, 127, -1, -64, LEAST, MOST}) {
            throwing(x, "6: cut(0, " + positions + ", 0)", ARGUMENT, y -> y.cut(0, positions, 0));
        }
        throwing(x, "6: strength -1", ARGUMENT, y -> y.cut(0, 3, -1));
        throwing(x, "6: strength 5", ARGUMENT, y -> y.cut(0, 3, 5));
        throwing(x, "6: no such key", INDEX, y -> y.cut(5, 3, 1));
        throwing(x, "6: no such key first", INDEX, y -> y.cut(-1, 0, 9));
    }

    // ---- promise 7

    private static void stick() {
        PairedTumblers x = new PairedTumblers();
        int[] keys = {2, 3, 2, 3, 3, 2};
        for (int p = 0; p < 6; p++) {
            same("7: stick(" + p + ")", keys[p], x.stick(p));
            same("7: stuck", 1, x.at(p, 2));
            same("7: freed(" + p + ")", 0, x.stick(p));
            same("7: free", 0, x.at(p, 2));
        }
        x.stick(0);
        same("7: two positions", 4, x.stick(4));
        same("7: saved", 6, x.count(9));
        throwing(x, "7: stick(-1)", INDEX, y -> y.stick(-1));
        throwing(x, "7: stick(6)", INDEX, y -> y.stick(6));
        throwing(x, "7: stick(32)", INDEX, y -> y.stick(32));
    }

    // ---- promise 8

    private static void learn() {
        PairedTumblers x = new PairedTumblers();
        same("8: learn at home", 0, x.learn());
        same("8: opens", 1, x.count(4));
        x.turn(3);
        same("8: no longer", 0, x.count(4));
        same("8: learn, not modulo 5", 12, x.learn());
        same("8: opens again", 1, x.count(4));
        same("8: saved", 3, x.count(9));
        same("8: no opening is counted", 0, x.count(8));
        x.undo();
        same("8: undo, the secret of before", 3, x.count(5));
        x.undo();
        x.undo();
        same("8: undo, no secret as before", 0, x.count(4));
        same("8: undo, no secret as before", 0, x.count(5));
    }

    // ---- promises 9 to 11

    private static void append() {
        PairedTumblers x = new PairedTumblers();
        same("9: append(33)", 1, x.append(33));
        same("9: append(126)", 2, x.append(126));
        throwing(x, "9: append(32)", ARGUMENT, y -> y.append(32));
        throwing(x, "9: append(127)", ARGUMENT, y -> y.append(127));
        throwing(x, "9: append(97 + 65536)", ARGUMENT, y -> y.append(97 + 65536));
        throwing(x, "9: append(-1)", ARGUMENT, y -> y.append(-1));
        for (int n = 3; n <= 60; n++) {
            same("9: append(97)", n, x.append(97));
        }
        throwing(x, "9: append to 60", STATE, y -> y.append(97));
        throwing(x, "9: append(0) to 60", ARGUMENT, y -> y.append(0));
        same("9: not undoable", 0, x.count(9));
    }

    private static void clearBuffer() {
        PairedTumblers x = with("abc");
        same("10: clearBuffer()", 3, x.clearBuffer());
        same("10: again", 0, x.clearBuffer());
        same("10: then from the beginning", 1, x.append('e'));
        same("10: the new word alone", 1, x.ofWord(0));
        same("10: not undoable", 0, x.count(9));
    }

    private static void firstErrorIs(String text, int due) {
        PairedTumblers x = with(text);
        same("11: firstError() of " + text, due, x.firstError());
        same("11: the buffer stays", text.length(), x.clearBuffer());
    }

    private static void firstError() {
        firstErrorIs("", 0);
        firstErrorIs("abcdeABCDE", 10);
        firstErrorIs("f", 0);
        firstErrorIs("F", 0);
        firstErrorIs("`", 0);
        firstErrorIs("@", 0);
        firstErrorIs("ab2", 2);
        firstErrorIs("2", 0);
        firstErrorIs(",", 0);
        firstErrorIs("a,", 1);
        firstErrorIs(")", 0);
        firstErrorIs("a)", 1);
        firstErrorIs("]", 0);
        firstErrorIs("a]", 1);
        firstErrorIs("a!b?", 1);
    }

    private static void firstErrorInBrackets() {
        firstErrorIs("()", 1);
        firstErrorIs("(a)", 3);
        firstErrorIs("(a)1", 3);
        firstErrorIs("(a)2", 4);
        firstErrorIs("(a)9", 4);
        firstErrorIs("(a):", 3);
        firstErrorIs("(a)a", 3);
        firstErrorIs("(a)22", 4);
        firstErrorIs("(a,", 2);
        firstErrorIs("(a]", 2);
        firstErrorIs("[,", 1);
        firstErrorIs("[]", 1);
        firstErrorIs("[a]", 2);
        firstErrorIs("[a)", 2);
        firstErrorIs("[a,]", 3);
        firstErrorIs("[a,,", 3);
        firstErrorIs("[a,b,", 4);
        firstErrorIs("[a,b)", 4);
        firstErrorIs("[a,b]2", 5);
        firstErrorIs("[a,b]]", 5);
        firstErrorIs("([a,b]c", 7);
        firstErrorIs("((((a)2)2)2)2", 13);
        firstErrorIs("(((((", 4);
        firstErrorIs("([([[", 4);
        firstErrorIs("[[[[a,b],b],b],[[[a,b],b],(a)2]]", 32);
        firstErrorIs("[[[[a,b],b],b],[[[a,b],b],[([", 28);
        firstErrorIs("((((a)2(a)2(a)2)2(((", 19);
    }

    // ---- promises 12 and 13

    private static void keepAndGoBack() {
        PairedTumblers x = new PairedTumblers();
        x.turn(0);
        x.cut(1, 7, 3);
        x.stick(5);
        x.learn();
        same("12: keep()", 1, x.keep());
        same("12: not undoable", 4, x.count(9));
        long kept = x.count(9);
        x.turn(1);
        x.stick(5);
        x.cut(1, 56, 0);
        x.learn();
        x.home();
        write(x, "ab");
        same("13: goBack()", 1, x.goBack());
        same("13: discs", 302145, discs(x));
        same("13: positions", 7, x.key(1, 0));
        same("13: strength", 3, x.key(1, 1));
        same("13: stuck", 1, x.at(5, 2));
        same("13: secret", 1, x.count(4));
        same("13: uses", 0, x.key(1, 5));
        same("13: account", 3, x.count(2));
        same("13: the buffer stays", 2, x.clearBuffer());
        same("13: undoable", 6, x.count(9));
        same("13: saved states are not of the snapshot", 4, kept);
        x.undo();
        same("13: undo of goBack", 12345, discs(x));
        same("13: the snapshot stays", 1, x.goBack());
        x.turn(0);
        same("12: a second keep()", 2, x.keep());
        x.turn(0);
        same("13: to the second", 2, x.goBack());
        x.undo();
        x.undo();
        x.undo();
        same("13: undo leaves the snapshot", 2, x.goBack());
        throwing(new PairedTumblers(), "13: goBack() without a snapshot", STATE, PairedTumblers::goBack);
    }

    // ---- promise 14

    private static void undo() {
        PairedTumblers x = new PairedTumblers();
        for (int i = 0; i < 9; i++) {
            x.turn(0);
        }
        same("14: at most 6 saved", 6, x.count(9));
        for (int left = 5; left >= 0; left--) {
            same("14: undo()", left, x.undo());
            same("14: turns", 3 + left, x.count(0));
        }
        throwing(x, "14: undo() of none", STATE, PairedTumblers::undo);
        x.turn(1);
        same("14: saved anew", 1, x.count(9));
        same("14: undo() anew", 0, x.undo());
        same("14: uses", 0, x.key(1, 5));
    }

    private static void undoRestoresAll() {
        PairedTumblers x = new PairedTumblers();
        x.learn();
        x.keep();
        write(x, "ab");
        long ahead = x.digest();
        doWord(x, "eEe");
        write(x, "ab");
        x.home();
        x.cut(4, 3, 2);
        x.stick(1);
        x.learn();
        same("14: the lock opened", 1, x.count(8));
        for (int i = 0; i < 5; i++) {
            x.undo();
        }
        same("14: 1 left", 1, x.count(9));
        same("14: all is as before", ahead, x.digest());
        write(x, "(");
        x.turn(0);
        x.append('a');
        x.undo();
        same("14: the buffer is not restored", 2, x.clearBuffer());
    }

    private static void undoableMethods() {
        PairedTumblers x = new PairedTumblers();
        x.learn();
        x.keep();
        x.count(0);
        x.closest();
        x.openIn(0);
        x.ifTurned(0, 0);
        x.append('a');
        x.ofWord(0);
        x.firstError();
        x.clearBuffer();
        same("14: looks and texts save nothing", 1, x.count(9));
        x.cut(0, 11, 1);
        same("14: cut saves, also the same", 2, x.count(9));
        x.goBack();
        same("14: goBack saves, also the same", 3, x.count(9));
        x.learn();
        same("14: learn saves, also the same", 4, x.count(9));
    }

    // ---- promise 15

    private static void at() {
        PairedTumblers x = new PairedTumblers();
        int[] keys = {9, 19, 6, 13, 26, 20};
        for (int p = 0; p < 6; p++) {
            same("15: at(" + p + ", 4)", keys[p], x.at(p, 4));
        }
        x.learn();
        same("15: all as in the secret", 111111, row(x, 3));
        x.turn(0);
        same("15: three as in the secret", 1011, row(x, 3));
        x.cut(1, 3, 1);
        x.home();
        x.turn(1);
        x.turn(1);
        same("15: right discs, other notches", 1111, row(x, 3));
        x.stick(3);
        same("15: stuck", 100, row(x, 2));
        x.cut(0, 33, 2);
        same("15: keys cut anew", 1 + 2 + 8, x.at(0, 4));
        throwing(x, "15: at(-1, 0)", INDEX, y -> y.at(-1, 0));
        throwing(x, "15: at(6, 0)", INDEX, y -> y.at(6, 0));
        throwing(x, "15: at(0, -1)", ARGUMENT, y -> y.at(0, -1));
        throwing(x, "15: at(0, 5)", ARGUMENT, y -> y.at(0, 5));
        throwing(x, "15: at(6, 5)", INDEX, y -> y.at(6, 5));
        throwing(x, "15: at(most, least)", INDEX, y -> y.at(MOST, LEAST));
    }

    // ---- promise 16

    private static void periodsOfKey(int positions, int strength, int due) {
        PairedTumblers x = new PairedTumblers();
        x.cut(2, positions, strength);
        same("16: period of " + positions + " with " + strength + " by doing", due, x.key(2, 2));
        same("16: period of " + positions + " with " + strength + " by rounds", due, x.key(2, 3));
        x.turn(0);
        x.stick(0);
        same("16: wherever the discs are", due, x.key(2, 2));
        same("16: wherever the discs are", due, x.key(2, 3));
    }

    private static void key() {
        periodsOfKey(3, 0, 2);
        periodsOfKey(3, 1, 10);
        periodsOfKey(7, 0, 3);
        periodsOfKey(7, 4, 15);
        periodsOfKey(15, 0, 4);
        periodsOfKey(15, 2, 20);
        periodsOfKey(31, 0, 5);
        periodsOfKey(31, 3, 5);
        periodsOfKey(63, 0, 6);
        periodsOfKey(63, 1, 30);
        PairedTumblers x = new PairedTumblers();
        x.turn(1);
        x.back(1);
        doWord(x, "bB(a)2");
        x.cut(1, 3, 0);
        same("16: uses", 4, x.key(1, 5));
        same("16: uses", 2, x.key(0, 5));
        same("16: can be turned", 0, x.key(1, 4));
        x.stick(1);
        same("16: can not be turned", 1, x.key(1, 4));
        same("16: can be turned", 0, x.key(3, 4));
        same("16: period of the key as it is cut", 2, x.key(1, 2));
        same("16: period of another", 15, x.key(2, 2));
        same("16: by rounds of the key as it is cut", 2, x.key(1, 3));
        throwing(x, "16: key(-1, 0)", INDEX, y -> y.key(-1, 0));
        throwing(x, "16: key(5, 0)", INDEX, y -> y.key(5, 0));
        throwing(x, "16: key(0, -1)", ARGUMENT, y -> y.key(0, -1));
        throwing(x, "16: key(0, 6)", ARGUMENT, y -> y.key(0, 6));
        throwing(x, "16: key(5, 6)", INDEX, y -> y.key(5, 6));
    }

    // ---- promise 17

    private static void pairIs(PairedTumblers x, int first, int second, int reach, int period) {
        String call = "17: pair(" + first + ", " + second + ", ";
        same(call + "0)", reach, x.pair(first, second, 0));
        same(call + "1)", Integer.bitCount(reach), x.pair(first, second, 1));
        same(call + "2)", period, x.pair(first, second, 2));
        same(call + "3)", period, x.pair(first, second, 3));
        same(call + "4)", reach == 0 ? 1 : 0, x.pair(first, second, 4));
    }

    private static void pair() {
        PairedTumblers x = new PairedTumblers();
        pairIs(x, 0, 1, 19, 3);
        pairIs(x, 3, 3, 0, 1);
        x.turn(2);
        x.stick(0);
        pairIs(x, 0, 1, 19, 3);
        x.cut(0, 3, 0);
        x.cut(1, 6, 0);
        x.cut(2, 48, 4);
        x.cut(3, 3, 2);
        pairIs(x, 0, 1, 7, 3);
        pairIs(x, 1, 0, 7, 3);
        pairIs(x, 0, 2, 0, 1);
        pairIs(x, 0, 3, 0, 1);
        // The same positions: they turn the same way, and no notch depends on the order.
        x.cut(0, 7, 1);
        x.cut(1, 7, 0);
        pairIs(x, 0, 1, 0, 1);
        throwing(x, "17: pair(-1, 0, 0)", INDEX, y -> y.pair(-1, 0, 0));
        throwing(x, "17: pair(5, 0, 0)", INDEX, y -> y.pair(5, 0, 0));
        throwing(x, "17: pair(0, -1, 0)", INDEX, y -> y.pair(0, -1, 0));
        throwing(x, "17: pair(0, 5, 0)", INDEX, y -> y.pair(0, 5, 0));
        throwing(x, "17: pair(0, 5, 9)", INDEX, y -> y.pair(0, 5, 9));
        throwing(x, "17: pair(0, 0, -1)", ARGUMENT, y -> y.pair(0, 0, -1));
        throwing(x, "17: pair(0, 0, 5)", ARGUMENT, y -> y.pair(0, 0, 5));
    }

    // ---- promise 18

    private static void wordIs(String text, int turns, int reach, int period, int sum) {
        PairedTumblers x = with(text);
        int[] due = {turns, reach, period, period, sum};
        for (int what = 0; what < 5; what++) {
            same("18: ofWord(" + what + ") of " + text, due[what], x.ofWord(what));
        }
        same("18: the buffer stays", text.length(), x.clearBuffer());
        same("18: nothing is done", 0, x.count(0));
    }

    private static void ofWord() {
        wordIs("a", 1, 11, 15, 1);
        wordIs("A", 1, 11, 15, -1);
        wordIs("aA", 2, 0, 1, 0);
        wordIs("(a)3", 3, 11, 5, 3);
        wordIs("((a)5)3", 15, 0, 1, 15);
        wordIs("[a,b]", 4, 19, 3, 0);
        wordIs("([a,b])3", 12, 0, 1, 0);
        wordIs("[a,b][b,a]", 8, 0, 1, 0);
        wordIs("[a(b)2,E]A(a)2", 11, Letters.reach("abbEBBAeAaa"), Letters.period("abbEBBAeAaa"), 1);
        wordIs("(E)5", 5, 50, 3, -5);
        PairedTumblers x = with("a");
        x.stick(0);
        x.turn(1);
        same("18: stuck positions do not matter", 11, x.ofWord(1));
        x.cut(0, 3, 0);
        same("18: the keys as they are cut now", 3, x.ofWord(1));
    }

    private static void ofWordBounds() {
        PairedTumblers x = with("((((ab)5)5)5)2");
        same("18: 500 turns", 500, x.ofWord(0));
        same("18: their sum", 500, x.ofWord(4));
        x.append('c');
        same("18: 501 turns", 501, x.ofWord(0));
        for (int what = 1; what < 5; what++) {
            same("18: NONE of 501 turns", -1, x.ofWord(what));
        }
        // 9 * 9 * 9 * 9 is 6561, 7 * 7 * 7 * 7 is 2401, 9 * 9 * 9 is 729.
        write(x, "((((a)9)9)9)9((((a)7)7)7)7(((a)9)9)9((a)9)9(a)8(a)2");
        same("18: some turns less than 9999", 6561 + 2401 + 729 + 81 + 8 + 2, x.ofWord(0));
        write(x, "((((a)9)9)9)9((((a)7)7)7)7((((a)8)8)8)2aaaaaaaaaaaaa");
        same("18: 9999 turns", 9999, x.ofWord(0));
        x.append('a');
        same("18: 10000 turns", 9999, x.ofWord(0));
        write(x, "[(((ab)9)9)9,a]");
        same("18: a pair of much", 2918, x.ofWord(0));
        for (String text : new String[] {"", "(", "a(a)", "[a,b", "x", "a)"}) {
            throwing(with(text), "18: ofWord(0) of " + text, ARGUMENT, y -> y.ofWord(0));
            throwing(with(text), "18: ofWord(4) of " + text, ARGUMENT, y -> y.ofWord(4));
        }
        throwing(with("a"), "18: ofWord(-1)", ARGUMENT, y -> y.ofWord(-1));
        throwing(with("a"), "18: ofWord(5)", ARGUMENT, y -> y.ofWord(5));
    }

    /** A word of letters alone, by the face: done again and again on an object. */
    private static final class Letters {
        static int reach(String letters) {
            PairedTumblers x = new PairedTumblers();
            doWord(x, letters);
            int mask = 0;
            for (int p = 0; p < 6; p++) {
                mask += x.at(p, 0) != p || x.at(p, 1) != 0 ? 1 << p : 0;
            }
            return mask;
        }

        static int period(String letters) {
            PairedTumblers x = new PairedTumblers();
            int times = 0;
            do {
                doWord(x, letters);
                times++;
            } while (x.count(3) != 6);
            return times;
        }
    }

    // ---- promise 19

    private static void count() {
        PairedTumblers x = new PairedTumblers();
        x.turn(3);
        same("19: notches modulo 5", 2, x.count(1));
        same("19: told by the turns", 2, x.count(2));
        x.back(2);
        same("19: turns", 2, x.count(0));
        same("19: 12 less 9", 3, x.count(1));
        same("19: 12 less 9", 3, x.count(2));
        x.back(2);
        x.back(2);
        same("19: below 0", 0, x.count(2));
        x.back(2);
        same("19: below 0", 1, x.count(2));
        x.cut(2, 3, 1);
        same("19: the key as it was then", 1, x.count(2));
        x.turn(2);
        same("19: the key as it is now", 3, x.count(2));
        same("19: both told alike", 3, x.count(1));
        same("19: four are saved beside", 6, x.count(9));
        x.home();
        same("19: from home() on", 0, x.count(2));
        same("19: all at home", 6, x.count(3));
        same("19: turns stay", 6, x.count(0));
        x.turn(0);
        same("19: three at home", 3, x.count(3));
        same("19: no secret", 0, x.count(4));
        same("19: no secret", 0, x.count(5));
        x.learn();
        x.turn(0);
        same("19: does not open", 0, x.count(4));
        same("19: three as in the secret", 3, x.count(5));
        x.stick(0);
        x.stick(5);
        same("19: two stuck", 2, x.count(6));
        same("19: keys that can not be turned", 4, x.count(7));
        throwing(x, "19: count(-1)", ARGUMENT, y -> y.count(-1));
        throwing(x, "19: count(10)", ARGUMENT, y -> y.count(10));
    }

    private static void countOpenings() {
        PairedTumblers x = new PairedTumblers();
        x.turn(0);
        x.back(0);
        same("19: no opening without a secret", 0, x.count(8));
        x.learn();
        x.turn(0);
        same("19: away", 0, x.count(8));
        x.back(0);
        same("19: back() opens", 1, x.count(8));
        x.back(1);
        x.turn(1);
        same("19: turn() opens", 2, x.count(8));
        doWord(x, "aAbBc");
        same("19: within word()", 4, x.count(8));
        same("19: not open now", 0, x.count(4));
        x.home();
        same("19: home() is no turn", 4, x.count(8));
        x.turn(0);
        x.learn();
        same("19: learn() is no turn", 4, x.count(8));
        x.keep();
        x.turn(0);
        x.goBack();
        same("19: goBack() is no turn", 4, x.count(8));
        doWord(x, "aA");
        x.undo();
        same("19: restored", 4, x.count(8));
    }

    // ---- promise 20

    private static void opensIn(String call, PairedTumblers x, int fewest, int first) {
        same("20: openIn(0) " + call, fewest, x.openIn(0));
        same("20: openIn(1) " + call, first, x.openIn(1));
    }

    private static void openIn() {
        PairedTumblers x = new PairedTumblers();
        opensIn("without a secret", x, -1, -1);
        x.learn();
        opensIn("open", x, 0, -1);
        x.turn(4);
        opensIn("behind e", x, 1, 9);
        x.back(1);
        opensIn("behind eB", x, 2, 1);
        x.turn(0);
        opensIn("behind eBa", x, 3, 5);
        x.back(3);
        opensIn("behind eBaD", x, 4, 3);
        x.turn(1);
        opensIn("behind eBaDb", x, -1, -1);
        x.learn();
        opensIn("with a new secret", x, 0, -1);
        x.back(0);
        x.back(0);
        opensIn("behind AA", x, 2, 0);
        x.undo();
        opensIn("behind A", x, 1, 0);
        throwing(x, "20: openIn(-1)", ARGUMENT, y -> y.openIn(-1));
        throwing(x, "20: openIn(2)", ARGUMENT, y -> y.openIn(2));

        PairedTumblers two = new PairedTumblers();
        two.cut(1, 3, 0);
        two.cut(3, 48, 0);
        two.learn();
        two.turn(1);
        opensIn("either way", two, 1, 1);
        two.turn(3);
        opensIn("in either order", two, 2, 1);
    }

    private static void openInWithStuck() {
        PairedTumblers x = new PairedTumblers();
        x.learn();
        x.turn(0);
        for (int k = 1; k < 5; k++) {
            x.cut(k, 48, 0);
        }
        x.stick(3);
        opensIn("with its key stuck", x, -1, -1);
        x.cut(4, 3, 0);
        x.stick(3);
        x.stick(4);
        opensIn("with the others stuck", x, 1, 5);
        x.stick(0);
        opensIn("with all stuck", x, -1, -1);
    }

    // ---- promise 21

    private static void ifTurned() {
        PairedTumblers x = new PairedTumblers();
        same("21: without a secret", 0, x.ifTurned(0, 0));
        x.learn();
        same("21: turned", 3, x.ifTurned(0, 0));
        same("21: turned back", 3, x.ifTurned(0, 1));
        x.turn(2);
        same("21: back to the secret", 6, x.ifTurned(2, 1));
        same("21: further on", 3, x.ifTurned(2, 0));
        same("21: another", 1, x.ifTurned(0, 0));
        x.stick(2);
        same("21: whether it can be or not", 6, x.ifTurned(2, 1));
        same("21: nothing is turned", 1, x.count(0));
        throwing(x, "21: no such key", INDEX, y -> y.ifTurned(-1, 0));
        throwing(x, "21: no such key", INDEX, y -> y.ifTurned(5, 2));
        throwing(x, "21: back -1", ARGUMENT, y -> y.ifTurned(0, -1));
        throwing(x, "21: back 2", ARGUMENT, y -> y.ifTurned(0, 2));
    }

    // ---- promise 22

    private static void closest() {
        PairedTumblers x = new PairedTumblers();
        same("22: at first", 1, x.closest());
        x.cut(2, 3, 1);
        x.cut(4, 12, 1);
        same("22: without a common position", 14, x.closest());
        x.stick(2);
        same("22: stuck or not", 14, x.closest());
        x.cut(3, 3, 4);
        same("22: the least number", 13, x.closest());
        x.cut(1, 11, 0);
        same("22: the same positions", 1, x.closest());
    }

    // ---- promises 23 and 24

    private static void shares() {
        PairedTumblers x = new PairedTumblers();
        checks.sameDouble("23: no secret", 0.0, x.openShare());
        checks.sameDouble("24: at first", 0.0, x.meanNotch());
        x.learn();
        checks.sameDouble("23: all", 1.0, x.openShare());
        x.turn(0);
        checks.sameDouble("23: three", 0.5, x.openShare());
        checks.sameDouble("24: 3 notches", 0.5, x.meanNotch());
        x.turn(4);
        checks.sameDouble("23: one", 1.0 / 6.0, x.openShare());
        checks.sameDouble("24: 6 notches", 1.0f, x.meanNotch());
        x.home();
        x.cut(0, 3, 4);
        x.cut(1, 63, 4);
        x.turn(0);
        checks.sameDouble("23: four", 4.0 / 6.0, x.openShare());
        checks.sameDouble("24: 8 notches", 8.0f / 6.0f, x.meanNotch());
        x.home();
        x.turn(1);
        checks.sameDouble("24: 24 notches", 4.0f, x.meanNotch());
    }

    // ---- promise 25

    private static long hash;

    private static void add(long value) {
        hash = 31 * hash + value;
    }

    private static void addCounts(PairedTumblers x) {
        for (int what = 0; what <= 9; what++) {
            add(x.count(what));
        }
        for (int p = 0; p < 6; p++) {
            for (int what = 0; what <= 4; what++) {
                add(x.at(p, what));
            }
        }
        for (int k = 0; k < 5; k++) {
            for (int what = 0; what <= 5; what++) {
                add(x.key(k, what));
            }
            add(x.ifTurned(k, 0));
            add(x.ifTurned(k, 1));
        }
    }

    /** Each lock is made anew, since so many looks are nearly half of the calls that an object is good for. */
    private static void digestIs(String call, Supplier<PairedTumblers> made, int snapshots, String buffer) {
        PairedTumblers x = made.get();
        hash = 3769;
        addCounts(x);
        for (int first = 0; first < 5; first++) {
            for (int second = 0; second < 5; second++) {
                for (int what = 0; what <= 4; what++) {
                    add(x.pair(first, second, what));
                }
            }
        }
        add(x.openIn(0));
        add(x.openIn(1));
        add(x.closest());
        add(Double.doubleToLongBits(x.openShare()));
        add(Float.floatToIntBits(x.meanNotch()));
        add(snapshots);
        add(buffer.length());
        buffer.chars().forEach(PromisesTest::add);
        same("25: digest() " + call, hash, x.digest());
    }

    private static void digest() {
        digestIs("of a new object", PairedTumblers::new, 0, "");
        digestIs("with a snapshot", () -> {
            PairedTumblers x = new PairedTumblers();
            x.keep();
            return x;
        }, 1, "");
        for (int i = 0; i <= 80; i++) {
            int turns = i;
            digestIs("behind " + turns + " turns", () -> busyBehind(turns), 1, "[a,!");
        }
        for (int i = 0; i < 5; i++) {
            for (int positions : new int[] {3, 7, 15, 31, 63}) {
                int strength = i;
                digestIs("of shares", () -> {
                    PairedTumblers x = new PairedTumblers();
                    x.learn();
                    x.cut(0, positions, strength);
                    x.turn(0);
                    return x;
                }, 0, "");
            }
        }
    }

    private static PairedTumblers busyBehind(int turns) {
        PairedTumblers x = new PairedTumblers();
        x.learn();
        x.keep();
        write(x, "[a,!");
        for (int i = 0; i < turns; i++) {
            if (i % 3 == 0) {
                x.back(i % 5);
            } else {
                x.turn((i * 7) % 5);
            }
        }
        return x;
    }
}
