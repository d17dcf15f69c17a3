/** Compares answers with those that are due, and ends a test's program. */
final class Check {
    private int right;
    private int wrong;

    void due(String call, long got, long want) {
        if (got == want) {
            right++;
        } else {
            wrong++;
            System.out.println(call + " answered " + got + ", due is " + want);
        }
    }

    void holds(String what, boolean so) {
        if (so) {
            right++;
        } else {
            wrong++;
            System.out.println("does not hold: " + what);
        }
    }

    /** Exits with 1 if an answer was wrong, or if nothing was looked at. */
    void end() {
        System.out.println(right + " as due, " + wrong + " not");
        if (wrong > 0 || right == 0) {
            System.exit(1);
        }
    }

    static void type(TwoKerbs x, String text) {
        for (int i = 0; i < text.length(); i++) {
            x.type(text.charAt(i));
        }
    }

    /** A new object to which this text, a faultless one, was told. */
    static TwoKerbs told(String text) {
        TwoKerbs x = new TwoKerbs();
        Check.type(x, text);
        int items = x.towns();
        if (items < 0) {
            throw new IllegalStateException(text + ": fault " + (-10 - items));
        }
        return x;
    }
}
