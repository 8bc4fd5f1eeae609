import java.util.function.Function;

/** Long runs of calls on the class and on the model beside it; each call has to answer or throw alike in both. */
public final class AgainstModelTest {
    private static final int RUNS = 560;
    private static final int CALLS = 512;

    private static final Checks checks = new Checks("against the model");
    private static final int[] ODD = {-1, -2, 5, 6, 7, 10, 31, 32, 64, 1000, Integer.MAX_VALUE, Integer.MIN_VALUE};
    private static final String SIGNS = "abcdeABCDE()[],23456789";

    private static long seed = 1;
    private static PairedTumblers real;
    private static Model model;
    private static int calls;
    private static int limit;

    /** A row of numbers that is the same in each run of the tests. */
    private static int below(int bound) {
        seed = seed * 6364136223846793005L + 1442695040888963407L;
        return (int) ((seed >>> 33) % bound);
    }

    private static int sometimesOdd(int good) {
        return below(25) == 0 ? ODD[below(ODD.length)] : good;
    }

    private static String answer(java.util.function.Supplier<Object> call) {
        try {
            return String.valueOf(call.get());
        } catch (RuntimeException e) {
            return "throws." + e.getClass().getSimpleName();
        }
    }

    /** Calls beyond the limit are left out: nothing is promised of an object then. */
    private static void both(String call, Function<PairedTumblers, Object> ofReal, Function<Model, Object> ofModel) {
        if (calls >= limit) {
            return;
        }
        calls++;
        String due = answer(() -> ofModel.apply(model));
        String got = answer(() -> ofReal.apply(real));
        checks.same(call + " got " + got + " due " + due, 1, got.equals(due) ? 1 : 0);
    }

    public static void main(String[] args) {
        for (int run = 0; run < RUNS && checks.wrongSoFar() < 20; run++) {
            real = new PairedTumblers();
            model = new Model();
            calls = 0;
            int taste = below(4);
            limit = CALLS - 1;
            while (calls < limit) {
                step(run, taste);
            }
            limit = CALLS;
            both("run " + run + " digest()", PairedTumblers::digest, Model::digest);
        }
        checks.end();
    }

    private static void step(int run, int taste) {
        int kind = below(100);
        String ahead = "run " + run + " ";
        if (kind < 22) {
            change(ahead, taste);
        } else if (kind < 27) {
            text(ahead, randomWord(0, 12 + below(60)));
        } else if (kind < 30) {
            both(ahead + "word()", PairedTumblers::word, Model::word);
        } else if (kind < 33) {
            both(ahead + "digest()", PairedTumblers::digest, Model::digest);
        } else {
            look(ahead);
        }
    }

    private static void change(String ahead, int taste) {
        int key = sometimesOdd(below(5));
        int position = sometimesOdd(below(6));
        int positions = sometimesOdd(below(64));
        int strength = sometimesOdd(below(5));
        switch (below(taste == 0 ? 14 : 30)) {
            case 0:
                both(ahead + "home()", PairedTumblers::home, Model::home);
                break;
            case 1: case 2:
                both(ahead + "cut(" + key + ", " + positions + ", " + strength + ")",
                    x -> x.cut(key, positions, strength), x -> x.cut(key, positions, strength));
                break;
            case 3: case 4:
                both(ahead + "stick(" + position + ")", x -> x.stick(position), x -> x.stick(position));
                break;
            case 5: case 6:
                both(ahead + "learn()", PairedTumblers::learn, Model::learn);
                break;
            case 7:
                both(ahead + "keep()", PairedTumblers::keep, Model::keep);
                break;
            case 8:
                both(ahead + "goBack()", PairedTumblers::goBack, Model::goBack);
                break;
            case 9: case 10: case 11:
                both(ahead + "undo()", PairedTumblers::undo, Model::undo);
                break;
            default:
                turnOrBack(ahead, key);
        }
    }

    private static void turnOrBack(String ahead, int key) {
        if (below(2) == 0) {
            both(ahead + "turn(" + key + ")", x -> x.turn(key), x -> x.turn(key));
        } else {
            both(ahead + "back(" + key + ")", x -> x.back(key), x -> x.back(key));
        }
    }

    private static void text(String ahead, String word) {
        if (below(3) != 0) {
            both(ahead + "clearBuffer()", PairedTumblers::clearBuffer, Model::clearBuffer);
        }
        for (char sign : word.toCharArray()) {
            int code = below(150) == 0 ? SIGNS.charAt(below(SIGNS.length())) : sometimesWild(sign);
            both(ahead + "append(" + code + ")", x -> x.append(code), x -> x.append(code));
        }
        both(ahead + "firstError() of " + word, PairedTumblers::firstError, Model::firstError);
        for (int w = 0; w < 5; w++) {
            int what = w;
            both(ahead + "ofWord(" + what + ") of " + word, x -> x.ofWord(what), x -> x.ofWord(what));
        }
    }

    private static int sometimesWild(char sign) {
        return below(300) == 0 ? below(140) - 5 : sign;
    }

    private static String randomWord(int open, int room) {
        StringBuilder all = new StringBuilder();
        int items = 1 + below(4);
        for (int i = 0; i < items && all.length() < room; i++) {
            int kind = below(open >= 4 + (below(40) == 0 ? 1 : 0) ? 4 : 7);
            if (kind < 4) {
                all.append("abcdeABCDE".charAt(below(10)));
            } else if (kind == 4) {
                all.append('(').append(randomWord(open + 1, room / 2)).append(')').append(2 + below(8));
            } else {
                all.append('[').append(randomWord(open + 1, room / 2)).append(',')
                    .append(randomWord(open + 1, room / 2)).append(']');
            }
        }
        return all.toString();
    }

    private static void look(String ahead) {
        int key = sometimesOdd(below(5));
        int other = sometimesOdd(below(5));
        int position = sometimesOdd(below(6));
        int what = sometimesOdd(below(10));
        int small = sometimesOdd(below(5));
        int tiny = sometimesOdd(below(2));
        switch (below(11)) {
            case 0: case 1:
                both(ahead + "at(" + position + ", " + small + ")", x -> x.at(position, small), x -> x.at(position, small));
                break;
            case 2:
                both(ahead + "key(" + key + ", " + what + ")", x -> x.key(key, what), x -> x.key(key, what));
                break;
            case 3:
                both(ahead + "pair(" + key + ", " + other + ", " + small + ")",
                    x -> x.pair(key, other, small), x -> x.pair(key, other, small));
                break;
            case 4:
                both(ahead + "ofWord(" + small + ")", x -> x.ofWord(small), x -> x.ofWord(small));
                break;
            case 5: case 6:
                both(ahead + "count(" + what + ")", x -> x.count(what), x -> x.count(what));
                break;
            case 7:
                both(ahead + "openIn(" + tiny + ")", x -> x.openIn(tiny), x -> x.openIn(tiny));
                break;
            case 8:
                both(ahead + "ifTurned(" + key + ", " + tiny + ")", x -> x.ifTurned(key, tiny), x -> x.ifTurned(key, tiny));
                break;
            case 9:
                both(ahead + "closest()", PairedTumblers::closest, Model::closest);
                break;
            default:
                both(ahead + "openShare()", PairedTumblers::openShare, Model::openShare);
                both(ahead + "meanNotch()", PairedTumblers::meanNotch, Model::meanNotch);
        }
    }
}
