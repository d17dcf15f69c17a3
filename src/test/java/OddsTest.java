/** ODDS, with each of its boundary cases: n, x, LEVEL 3 less, below 0, least terms. */
final class OddsTest {
    private static final Check check = new Check();
    /** The kerb is flooded if the tide is not weak; what leaves it comes to 1 and stays there. */
    private static final String ONCE = "m10 0 5;k0 3;k1 19;d0 1 1;t0;";

    public static void main(String[] args) {
        noTides();
        fourTides();
        neverWeak();
        alwaysWeak();
        weakIsThreeLess();
        weakIsBelowZero();
        leastTerms();
        underWayAtTheEnd();
        underWayAtFirst();
        oneThatIsTied();
        check.end();
    }

    private static void odds(String told, TwoKerbs x, int k, int n, int weak, int upper, int lower) {
        check.due(told + ": upper", x.odds(0, k, n, weak, 0), upper);
        check.due(told + ": lower", x.odds(0, k, n, weak, 1), lower);
    }

    private static void noTides() {
        TwoKerbs x = Check.told(ONCE);
        for (int weak = 0; weak <= 10; weak++) {
            odds("it lies there, by " + weak, x, 0, 0, weak, 1, 1);
            odds("it lies elsewhere, by " + weak, x, 1, 0, weak, 0, 1);
        }
    }

    private static void fourTides() {
        TwoKerbs x = Check.told(ONCE);
        odds("weak four times", x, 0, 4, 3, 81, 10000);
        odds("not weak once at least", x, 1, 4, 3, 9919, 10000);
        odds("nine of ten", x, 0, 4, 9, 6561, 10000);
        odds("one of ten", x, 0, 4, 1, 1, 10000);
        odds("three tides", x, 0, 3, 7, 343, 1000);
    }

    private static void neverWeak() {
        TwoKerbs x = Check.told(ONCE);
        for (int n = 1; n <= 4; n++) {
            odds("never weak, gone in " + n, x, 1, n, 0, 1, 1);
            odds("never weak, not there in " + n, x, 0, n, 0, 0, 1);
        }
    }

    private static void alwaysWeak() {
        TwoKerbs x = Check.told(ONCE);
        for (int n = 1; n <= 4; n++) {
            odds("always weak, there in " + n, x, 0, n, 10, 1, 1);
            odds("always weak, not gone in " + n, x, 1, n, 10, 0, 1);
        }
    }

    private static void weakIsThreeLess() {
        odds("as high as a weak tide", Check.told("m10 0 5;k0 2;k1 19;d0 1 1;t0;"), 1, 1, 10, 1, 1);
        odds("higher than a weak tide", Check.told("m10 0 5;k0 3;k1 19;d0 1 1;t0;"), 1, 1, 10, 0, 1);
        odds("as high as a tide", Check.told("m10 0 5;k0 5;k1 19;d0 1 1;t0;"), 1, 1, 9, 1, 10);
        odds("higher than a tide", Check.told("m10 0 5;k0 6;k1 19;d0 1 1;t0;"), 1, 4, 0, 0, 1);
    }

    /** LEVEL does not go round: it is below 0, and no kerb is as low as that. */
    private static void weakIsBelowZero() {
        for (int level = 0; level <= 3; level++) {
            TwoKerbs x = Check.told("m10 0 " + level + ";k0 0;k1 19;d0 1 1;t0;");
            odds("always weak, LEVEL " + level, x, 1, 1, 10, level == 3 ? 1 : 0, 1);
        }
    }

    private static void leastTerms() {
        TwoKerbs x = Check.told(ONCE);
        odds("5 of 10", x, 0, 1, 5, 1, 2);
        odds("4 of 10", x, 0, 1, 4, 2, 5);
        odds("3 of 10", x, 0, 1, 3, 3, 10);
        odds("625 of 10000", x, 0, 4, 5, 1, 16);
        odds("256 of 10000", x, 0, 4, 4, 16, 625);
        odds("4096 of 10000", x, 0, 4, 8, 256, 625);
    }

    private static void underWayAtTheEnd() {
        TwoKerbs x = Check.told("m10 0 5;k0 3;k1 19;d0 1 4;t0;");
        odds("3 tides are too few", x, 1, 3, 5, 0, 1);
        odds("it left at once", x, 1, 4, 3, 7, 10);
        odds("it never left", x, 0, 4, 3, 81, 10000);
    }

    private static void underWayAtFirst() {
        TwoKerbs x = Check.told("m10 0 5;k0 3;k1 3;d0 1 3;t0;");
        x.tides(1);
        odds("a tide more to go", x, 1, 1, 5, 0, 1);
        odds("it is there, weak or not", x, 1, 2, 5, 1, 1);
    }

    private static void oneThatIsTied() {
        TwoKerbs x = Check.told(ONCE);
        x.ties(0, 1);
        odds("tied", x, 0, 4, 5, 1, 1);
        odds("tied, elsewhere", x, 1, 4, 5, 0, 1);
    }
}
