/** Promise 25: digest, value by value of the list that the document tells. */
final class DigestSentences extends SentenceTests {
    private long hash;

    DigestSentences(Sentences sentences, Checks checks) {
        super(sentences, checks);
    }

    @Override
    void all() {
        under("Promise 25: digest");
        holds("Computes a hash of the whole state.", this::eachCallIsSeen);
        holds("The hash starts at 3769.", () -> digestIs("of a new object", fresh(), 0, ""));
        holds("For each value v of the following list, in order, the hash becomes 31 * hash + v, "
            + "in long arithmetic with overflow.", () -> digestIs("of a busy lock", busy(), 1, "[a,b"));
        holds("The values are: count(0) to count(9)", this::counts);
        holds("for each position its numbers 0 to 4", this::positions);
        holds("for each key its numbers 0 to 5, and ifTurned with 0 and 1", this::keys);
        holds("for each first key and each second key pair with 0 to 4", this::pairs);
        holds("openIn with 0 and 1", this::opening);
        holds("closest", () -> {
            for (int k = 0; k < 4; k++) {
                PairedTumblers x = new PairedTumblers();
                x.cut(k, 3, 0);
                x.cut(4, 12, 0);
                digestIs("with keys " + k + " and 4 apart", x, 0, "");
            }
        });
        holds("the bits of openShare (as Double.doubleToLongBits)", this::shares);
        holds("the bits of meanNotch (as Float.floatToIntBits)", this::means);
        holds("1 if there is a snapshot, otherwise 0", this::snapshots);
        holds("the length of the buffer and each of its character codes.", this::buffers);
        holds("Returns the hash.", () -> same("of two objects alike", busy().digest(), busy().digest()));
    }

    // ---- the hash as the document tells it

    private void digestIs(String call, PairedTumblers x, int snapshots, String buffer) {
        hash = 3769;
        addCountsAndPositions(x);
        addKeysAndPairs(x);
        become(x.openIn(0));
        become(x.openIn(1));
        become(x.closest());
        become(Double.doubleToLongBits(x.openShare()));
        become(Float.floatToIntBits(x.meanNotch()));
        become(snapshots);
        become(buffer.length());
        for (char sign : buffer.toCharArray()) {
            become(sign);
        }
        same("digest() " + call, hash, x.digest());
    }

    private void become(long value) {
        hash = 31 * hash + value;
    }

    private void addCountsAndPositions(PairedTumblers x) {
        for (int what = 0; what <= 9; what++) {
            become(x.count(what));
        }
        for (int p = 0; p < 6; p++) {
            for (int what = 0; what <= 4; what++) {
                become(x.at(p, what));
            }
        }
    }

    private void addKeysAndPairs(PairedTumblers x) {
        for (int k = 0; k < 5; k++) {
            for (int what = 0; what <= 5; what++) {
                become(x.key(k, what));
            }
            become(x.ifTurned(k, 0));
            become(x.ifTurned(k, 1));
        }
        for (int first = 0; first < 5; first++) {
            for (int second = 0; second < 5; second++) {
                for (int what = 0; what <= 4; what++) {
                    become(x.pair(first, second, what));
                }
            }
        }
    }

    // ---- its values

    private void eachCallIsSeen() {
        PairedTumblers x = new PairedTumblers();
        long before = x.digest();
        same("it changes nothing", before, x.digest());
        for (int i = 0; i < 8; i++) {
            change(x, i);
            long then = x.digest();
            same("change " + i + " is seen", 1, then != before ? 1 : 0);
            before = then;
        }
    }

    private static void change(PairedTumblers x, int which) {
        switch (which) {
            case 0: x.turn(0); break;
            case 1: x.learn(); break;
            case 2: x.keep(); break;
            case 3: x.append('a'); break;
            case 4: x.stick(2); break;
            case 5: x.cut(2, 48, 0); break;
            case 6: x.home(); break;
            default: x.undo(); break;
        }
    }

    private void counts() {
        PairedTumblers x = new PairedTumblers();
        x.learn();
        for (int i = 0; i < 8; i++) {
            doLetters(x, i % 2 == 0 ? "a" : "A");
            digestIs("behind " + (i + 1) + " turns, some that open", x, 0, "");
        }
        for (int left = 5; left >= 0; left--) {
            x.undo();
            digestIs("with " + left + " saved", x, 0, "");
        }
    }

    private void positions() {
        PairedTumblers x = new PairedTumblers();
        doLetters(x, "abC");
        x.learn();
        for (int p = 0; p < 6; p++) {
            x.stick(p);
            digestIs("with " + (p + 1) + " stuck", x, 0, "");
        }
        x.home();
        digestIs("at home, elsewhere than the secret", x, 0, "");
    }

    private void keys() {
        PairedTumblers x = new PairedTumblers();
        x.learn();
        for (int k = 0; k < 5; k++) {
            x.turn(k);
            x.cut(k, 63 >> k % 3, k);
            digestIs("with key " + k + " cut anew", x, 0, "");
        }
    }

    private void pairs() {
        for (int second : new int[] {3, 6, 12, 63}) {
            for (int strength = 0; strength <= 4; strength++) {
                PairedTumblers x = cutAlike(3, strength);
                x.cut(1, second, 2);
                x.cut(3, 56, strength);
                digestIs("with keys 3, " + second + " and 56", x, 0, "");
            }
        }
    }

    private void opening() {
        PairedTumblers x = new PairedTumblers();
        digestIs("without a secret", x, 0, "");
        x.learn();
        digestIs("open", x, 0, "");
        for (char letter : "eBaDb".toCharArray()) {
            doLetters(x, "" + letter);
            digestIs("behind " + letter, x, 0, "");
        }
    }

    private void shares() {
        PairedTumblers x = new PairedTumblers();
        x.learn();
        same("as in the secret", 6, x.count(5));
        digestIs("with 6 as in the secret", x, 0, "");
        for (int left = 5; left >= 0; left--) {
            PairedTumblers y = new PairedTumblers();
            y.learn();
            for (int p = 5; p >= left; p--) {
                addOneNotch(y, p);
            }
            same("as in the secret", left, y.count(5));
            digestIs("with " + left + " as in the secret", y, 0, "");
        }
    }

    private void means() {
        for (int sum = 0; sum <= 24; sum++) {
            PairedTumblers x = new PairedTumblers();
            for (int i = 0; i < sum; i++) {
                addOneNotch(x, i % 6);
            }
            same("notches", sum, notchSum(x));
            digestIs("of " + sum + " notches", x, 0, "");
        }
    }

    private void snapshots() {
        PairedTumblers x = new PairedTumblers();
        digestIs("without a snapshot", x, 0, "");
        x.keep();
        digestIs("with a snapshot", x, 1, "");
        x.keep();
        digestIs("with a second one in its place", x, 1, "");
        x.turn(0);
        x.goBack();
        digestIs("behind goBack()", x, 1, "");
        x.undo();
        x.undo();
        digestIs("behind undo()", x, 1, "");
    }

    private void buffers() {
        String all = "";
        for (char code = 33; code <= 126; code++) {
            all += code;
        }
        digestIs("of the lowest codes", with(all.substring(0, 60)), 0, all.substring(0, 60));
        digestIs("of the highest codes", with(all.substring(34)), 0, all.substring(34));
        digestIs("of one code", with("~"), 0, "~");
        PairedTumblers x = with("ab");
        x.clearBuffer();
        digestIs("of a buffer cleared", x, 0, "");
        same("of another order", 0, with("ab").digest() == with("ba").digest() ? 1 : 0);
    }
}
