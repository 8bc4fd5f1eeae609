/** Compares answers with those that are due, prints each that is not, and ends with exit code 1 if there was one. */
final class Checks {
    interface Call {
        long answer();
    }

    private final String name;
    private String part;
    private int compared = 0;
    private int wrong = 0;

    Checks(String name) {
        this.name = name;
        this.part = name;
    }

    /** From now on what is wrong is told with this part's name. */
    void begin(String newPart) {
        part = newPart;
    }

    void same(String call, long due, long got) {
        compared++;
        if (got != due) {
            tell(call + " answered " + got + ", due is " + due);
        }
    }

    void sameDouble(String call, double due, double got) {
        compared++;
        if (Double.compare(got, due) != 0) {
            tell(call + " answered " + got + ", due is " + due);
        }
    }

    void sameText(String call, String due, String got) {
        compared++;
        if (!got.equals(due)) {
            tell(call + " told\n  " + got + "\ndue is\n  " + due);
        }
    }

    void throwing(String call, Class<? extends RuntimeException> due, Call made) {
        compared++;
        try {
            long got = made.answer();
            tell(call + " answered " + got + ", due is " + due.getName());
        } catch (RuntimeException e) {
            if (e.getClass() != due) {
                tell(call + " threw " + e + ", due is " + due.getName());
            }
        }
    }

    int comparedSoFar() {
        return compared;
    }

    int wrongSoFar() {
        return wrong;
    }

    void tell(String text) {
        wrong++;
        System.out.println(part + ": " + text);
    }

    void end() {
        System.out.println(name + ": " + compared + " compared, " + wrong + " wrong");
        if (wrong != 0 || compared == 0) {
            System.exit(1);
        }
    }
}
