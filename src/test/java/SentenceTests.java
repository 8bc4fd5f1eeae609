import java.util.function.Supplier;
import java.util.function.ToLongFunction;

/** Tests of sentences of the document, one test each; a class of these has some of its headings. */
abstract class SentenceTests extends Locks {
    private final Sentences sentences;
    private final Checks checks;

    SentenceTests(Sentences sentences, Checks checks) {
        this.sentences = sentences;
        this.checks = checks;
    }

    abstract void all();

    final void under(String heading) {
        sentences.under(heading);
    }

    final void holds(String words, Runnable test) {
        sentences.holds(words, test);
    }

    final void same(String call, long due, long got) {
        checks.same(call, due, got);
    }

    final void sameShare(String call, double due, double got) {
        checks.sameDouble(call, due, got);
    }

    final void sameText(String call, String due, String got) {
        checks.sameText(call, due, got);
    }

    /** The discs and the notches from position 0 to 5, each as the figures of a number. */
    final void stands(String call, PairedTumblers x, int discs, int notches) {
        same("discs behind " + call, discs, discs(x));
        same("notches behind " + call, notches, notches(x));
    }

    /** The call throws, and all that later calls tell is as on a lock on which it was not made. */
    final void refused(String call, Class<? extends RuntimeException> due,
            Supplier<PairedTumblers> made, ToLongFunction<PairedTumblers> refused) {
        PairedTumblers x = made.get();
        checks.throwing(call, due, () -> refused.applyAsLong(x));
        sameText("later calls behind the refused " + call, later(made.get()), later(x));
    }

    /** The call adds one saved state to some, none to six, and undo() brings back all but the buffer. */
    final void undoable(String call, ToLongFunction<PairedTumblers> done) {
        PairedTumblers x = begun();
        done.applyAsLong(x);
        same("saved states behind " + call, 5, x.count(9));
        same("undo() of " + call, 4, x.undo());
        PairedTumblers untouched = begun();
        x.clearBuffer();
        untouched.clearBuffer();
        sameText("later calls behind undo() of " + call, later(untouched), later(x));

        PairedTumblers full = begun();
        full.learn();
        full.learn();
        same("saved states ahead of " + call, 6, full.count(9));
        done.applyAsLong(full);
        same("saved states behind a seventh, " + call, 6, full.count(9));
    }

    /** The call does not throw and saves nothing. */
    final void notUndoable(String call, ToLongFunction<PairedTumblers> done) {
        PairedTumblers x = begun();
        done.applyAsLong(x);
        same("saved states behind " + call, 4, x.count(9));
        x.undo();
        same("undo() behind " + call + " is that of turn(2)", 2, x.count(0));
    }
}
