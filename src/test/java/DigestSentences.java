import java.util.function.Supplier;

/** Promise 25: digest, value by value of the list that the document tells. */
final class DigestSentences extends SentenceTests {
    private long hash;

    DigestSentences(Sentences sentences, Checks checks) {
        super(sentences, checks);
    }

    @Override
    void all() {
        under("Promise 25: digest");
        holds("Computes a hash of the whole state.", this::eachCallIsSeen);
        holds("The hash starts at 3769.", () -> digestIs("of a new object", Locks::fresh, 0, ""));
        holds("For each value v of the following list, in order, the hash becomes 31 * hash + v, "
            + "in long arithmetic with overflow.", () -> digestIs("of a busy lock", Locks::busy, 1, "[a,b"));
        holds("The values are: count(0) to count(9)", this::counts);
        holds("for each position its numbers 0 to 4", this::positions);
        holds("for each key its numbers 0 to 5, and ifTurned with 0 and 1", this::keys);
        holds("for each first key and each second key pair with 0 to 4", this::pairs);
        holds("openIn with 0 and 1", this::opening);
        holds("closest", this::closestKeys);
        holds("the bits of openShare (as Double.doubleToLongBits)", this::shares);
        holds("the bits of meanNotch (as Float.floatToIntBits)", this::means);
        holds("1 if there is a snapshot, otherwise 0", this::snapshots);
        holds("the length of the buffer and each of its character codes.", this::buffers);
        holds("Returns the hash.", () -> same("of two objects alike", busy().digest(), busy().digest()));
    }

    // ---- the hash as the document tells it

    /** Each lock is made anew, since so many looks are nearly half of the calls that an object is good for. */
    private void digestIs(String call, Supplier<PairedTumblers> made, int snapshots, String buffer) {
        PairedTumblers x = made.get();
        hash = 3769;
        addCountsAndPositions(x);
        addKeysAndPairs(x);
        become(x.openIn(0));
        become(x.openIn(1));
        become(x.closest());
        become(Double.doubleToLongBits(x.openShare()));
        become(Float.floatToIntBits(x.meanNotch()));
        become(snapshots);
        become(buffer.length());
        for (char sign : buffer.toCharArray()) {
            become(sign);
        }
        same("digest() " + call, hash, x.digest());
    }

    private void become(long value) {
        hash = 31 * hash + value;
    }

    private void addCountsAndPositions(PairedTumblers x) {
        for (int what = 0; what <= 9; what++) {
            become(x.count(what));
        }
        for (int p = 0; p < 6; p++) {
            for (int what = 0; what <= 4; what++) {
                become(x.at(p, what));
            }
        }
    }

    private void addKeysAndPairs(PairedTumblers x) {
        for (int k = 0; k < 5; k++) {
            for (int what = 0; what <= 5; what++) {
                become(x.key(k, what));
            }
            become(x.ifTurned(k, 0));
            become(x.ifTurned(k, 1));
        }
        for (int first = 0; first < 5; first++) {
            for (int second = 0; second < 5; second++) {
                for (int what = 0; what <= 4; what++) {
                    become(x.pair(first, second, what));
                }
            }
        }
    }

    // ---- its values

    private void eachCallIsSeen() {
        PairedTumblers x = new PairedTumblers();
        long before = x.digest();
        same("it changes nothing", before, x.digest());
        for (int i = 0; i < 8; i++) {
            change(x, i);
            long then = x.digest();
            same("change " + i + " is seen", 1, then != before ? 1 : 0);
            before = then;
        }
    }

    private static void change(PairedTumblers x, int which) {
        switch (which) {
            case 0: x.turn(0); break;
            case 1: x.learn(); break;
            case 2: x.keep(); break;
            case 3: x.append('a'); break;
            case 4: x.stick(2); break;
            case 5: x.cut(2, 48, 0); break;
            case 6: x.home(); break;
            default: x.undo(); break;
        }
    }

    private static PairedTumblers learnt(String letters) {
        PairedTumblers x = new PairedTumblers();
        x.learn();
        doLetters(x, letters);
        return x;
    }

    private void counts() {
        String openings = "aAaAaAaA";
        for (int i = 0; i <= openings.length(); i++) {
            String letters = openings.substring(0, i);
            digestIs("behind " + letters, () -> learnt(letters), 0, "");
        }
        for (int i = 1; i <= 6; i++) {
            int undone = i;
            digestIs("behind " + undone + " undo()", () -> undo(learnt(openings), undone), 0, "");
        }
    }

    private static PairedTumblers undo(PairedTumblers x, int times) {
        for (int i = 0; i < times; i++) {
            x.undo();
        }
        return x;
    }

    private void positions() {
        for (int i = 0; i <= 6; i++) {
            int stuck = i;
            digestIs("with " + stuck + " stuck", () -> elsewhere(stuck), 0, "");
        }
        digestIs("at home, elsewhere than the secret", () -> {
            PairedTumblers x = elsewhere(0);
            x.home();
            return x;
        }, 0, "");
    }

    /** The secret is not at home, and some of the discs are not as in the secret. */
    private static PairedTumblers elsewhere(int stuck) {
        PairedTumblers x = new PairedTumblers();
        doLetters(x, "abC");
        x.learn();
        x.turn(3);
        for (int p = 0; p < stuck; p++) {
            x.stick(p);
        }
        return x;
    }

    private void keys() {
        for (int i = 0; i <= 5; i++) {
            int changed = i;
            digestIs("with " + changed + " keys cut anew", () -> {
                PairedTumblers x = learnt("");
                for (int k = 0; k < changed; k++) {
                    x.turn(k);
                    x.cut(k, 63 >> k % 3, k);
                }
                return x;
            }, 0, "");
        }
    }

    private void pairs() {
        for (int positions : new int[] {3, 6, 12, 63}) {
            for (int i = 0; i <= 4; i++) {
                int strength = i;
                digestIs("with keys 3, " + positions + " and 56", () -> {
                    PairedTumblers x = cutAlike(3, strength);
                    x.cut(1, positions, 2);
                    x.cut(3, 56, strength);
                    return x;
                }, 0, "");
            }
        }
    }

    private void opening() {
        digestIs("without a secret", Locks::fresh, 0, "");
        for (int i = 0; i <= 5; i++) {
            String letters = "eBaDb".substring(0, i);
            digestIs("behind " + letters, () -> learnt(letters), 0, "");
        }
    }

    private void closestKeys() {
        for (int i = 0; i < 4; i++) {
            int key = i;
            digestIs("with keys " + key + " and 4 apart", () -> {
                PairedTumblers x = new PairedTumblers();
                x.cut(key, 3, 0);
                x.cut(4, 12, 0);
                return x;
            }, 0, "");
        }
    }

    /** Adds as many notches as are told, one at each position in turn. */
    private static PairedTumblers withNotches(int sum) {
        PairedTumblers x = learnt("");
        for (int i = 0; i < sum; i++) {
            addOneNotch(x, i % 6);
        }
        return x;
    }

    private void shares() {
        for (int i = 0; i <= 6; i++) {
            int other = i;
            same("as in the secret", 6 - other, withNotches(other).count(5));
            digestIs("with " + other + " other than in the secret", () -> withNotches(other), 0, "");
        }
    }

    private void means() {
        for (int i = 0; i <= 24; i++) {
            int sum = i;
            same("notches", sum, notchSum(withNotches(sum)));
            digestIs("of " + sum + " notches", () -> withNotches(sum), 0, "");
        }
    }

    private void snapshots() {
        digestIs("without a snapshot", Locks::fresh, 0, "");
        digestIs("with a snapshot", () -> kept(""), 1, "");
        digestIs("with a second one in its place", () -> kept("k"), 1, "");
        digestIs("behind goBack()", () -> kept("tg"), 1, "");
        digestIs("behind undo() of both", () -> kept("tguu"), 1, "");
    }

    /** Behind keep(): more calls, by their first letters. */
    private static PairedTumblers kept(String calls) {
        PairedTumblers x = new PairedTumblers();
        x.keep();
        for (char call : calls.toCharArray()) {
            switch (call) {
                case 'k': x.keep(); break;
                case 't': x.turn(0); break;
                case 'g': x.goBack(); break;
                default: x.undo(); break;
            }
        }
        return x;
    }

    private void buffers() {
        String all = "";
        for (char code = 33; code <= 126; code++) {
            all += code;
        }
        String lowest = all.substring(0, 60);
        String highest = all.substring(34);
        digestIs("of the lowest codes", () -> with(lowest), 0, lowest);
        digestIs("of the highest codes", () -> with(highest), 0, highest);
        digestIs("of one code", () -> with("~"), 0, "~");
        digestIs("of a buffer cleared", () -> {
            PairedTumblers x = with("ab");
            x.clearBuffer();
            return x;
        }, 0, "");
        same("of another order", 0, with("ab").digest() == with("ba").digest() ? 1 : 0);
    }
}
