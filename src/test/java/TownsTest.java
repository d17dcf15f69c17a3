/** Promises 1 to 7: a new object, type, clear, towns, kerb, thing, now. */
final class TownsTest {
    private static final Check check = new Check();

    public static void main(String[] args) {
        newObject();
        typeAndClear();
        itemsAreCounted();
        faultsOfLevel();
        faultsOfKerbs();
        faultsOfDrains();
        faultsOfThings();
        faultsOfTokens();
        textsThatEndTooEarly();
        faultChangesNothing();
        readAnew();
        textsAheadAreGone();
        kerbs();
        things();
        nows();
        check.end();
    }

    private static void newObject() {
        TwoKerbs x = new TwoKerbs();
        int[] counts = {0, 0, 10, 3, 0, 0, 0, 0};
        for (int what = 0; what < counts.length; what++) {
            check.due("new: count(" + what + ")", x.count(what), counts[what]);
        }
        for (int what = 0; what < 5; what++) {
            check.due("new: now(" + what + ")", x.now(what), 0);
        }
        check.due("new: trace()", x.trace(), 0);
        check.due("new: undo()", x.undo(), TwoKerbs.STATE);
        check.due("new: back(0)", x.back(0), TwoKerbs.STATE);
        check.due("new: kerb(0, 0)", x.kerb(0, 0), TwoKerbs.BAD);
        check.due("new: thing(0, 0)", x.thing(0, 0), TwoKerbs.BAD);
        check.due("new: level(7)", x.level(7), 1);
    }

    private static void typeAndClear() {
        TwoKerbs x = new TwoKerbs();
        check.due("clear() of none", x.clear(), 0);
        check.due("type(0)", x.type(0), 1);
        check.due("type(255)", x.type(255), 2);
        check.due("type(-1)", x.type(-1), TwoKerbs.BAD);
        check.due("type(256)", x.type(256), TwoKerbs.BAD);
        for (int i = 3; i <= 150; i++) {
            check.due("letter " + i, x.type('k'), i);
        }
        check.due("letter 151", x.type('k'), TwoKerbs.FULL);
        check.due("BAD ahead of FULL", x.type(256), TwoKerbs.BAD);
        check.due("count(7)", x.count(7), 150);
        check.due("clear()", x.clear(), 150);
        check.due("count(7) then", x.count(7), 0);
        check.due("type behind clear()", x.type('k'), 1);
    }

    private static void itemsAreCounted() {
        fault("", 0);
        fault("   ", 0);
        fault("m2 0 0;", 1);
        fault("m20 19 19;", 1);
        fault("k0 0;k1 19;d0 1 1;d1 0 4;d0 0 2;t1;t0;", 7);
        fault(" k 0 0 ; t 0 ; ", 2);
        fault("k0 5;m5 1 4;t0;", 3);
        fault("k0 0;k0 0;k0 0;k0 0;k0 0;k0 0;k0 0;k0 0;t7;t7;t7;t7;t7;", 13);
        fault("k0  10;", 1);
        fault("k0 0;t0;k0 0;d0 1 1;t1;", 5);
    }

    private static void faultsOfLevel() {
        fault("m1 0 0;", -11);
        fault("m21 0 0;", -11);
        fault("m5 5 0;", -13);
        fault("m5 0 5;", -15);
        fault("m5 4 4 0;", -17);
        fault("m5 4;", -14);
        fault("m5 4 4;k0 0;m5 4 4;", -22);
    }

    private static void faultsOfKerbs() {
        fault("k2 0;", -11);
        fault("k0 20;", -13);
        fault("k0;", -12);
        fault("k0 0 0;", -15);
        fault("k0 0;k0 0;k0 0;k0 0;k0 0;k0 0;k0 0;k0 0;k0 0;", -50);
        fault("k0 0;k0 0;k0 0;k0 0;k0 0;k0 0;k0 0;k0 0; k9 9;", -51);
    }

    private static void faultsOfDrains() {
        fault("d0 0 1;", -11);
        fault("k0 0;d1 0 1;", -16);
        fault("k0 0;d0 1 1;", -18);
        fault("k0 0;d0 0 0;", -20);
        fault("k0 0;d0 0 5;", -20);
        fault("k0 0;d0 0;", -19);
        fault("k0 0;d0 0 1 1;", -22);
        fault("k0 0;d0 1 1;k0 0;", -18);
    }

    private static void faultsOfThings() {
        fault("t0;", -11);
        fault("t0;k0 0;", -11);
        fault("k0 0;t1;", -16);
        fault("k0 0;t;", -16);
        fault("k0 0;t0 0;", -18);
        fault("k0 0;t0;t0;t0;t0;t0;t0;", -30);
    }

    private static void faultsOfTokens() {
        fault("x", -10);
        fault("  x", -12);
        fault(";", -10);
        fault("5", -10);
        fault("k0 0;;", -15);
        fault("k 00 0;", -12);
        fault("k0 01;", -13);
        fault("k0 09;", -13);
        fault("k0 0;" + (char) 0, -15);
        fault("k0 100;", -13);
        fault("k0 4294967296;", -13);
        fault("k0 18446744073709551617;", -13);
        fault("km 0;", -11);
        fault("k0,0;", -12);
        fault("K0 0;", -10);
        fault("k0\t0;", -12);
        fault("k0 1x;", -14);
        fault("k0 0;" + (char) 233, -15);
        fault("k0 -1;", -13);
        fault("m5 x 100;", -13);
    }

    private static void textsThatEndTooEarly() {
        fault("m", -11);
        fault("m5", -12);
        fault("m5 ", -13);
        fault("m5 0 0", -16);
        fault("k0 0;k", -16);
        fault("k0 0;d0 0 1  ", -23);
        fault("k0 0;t0", -17);
        fault("k0 100", -13);
    }

    /** What towns() answers to a text, told to a new object. */
    private static void fault(String text, int want) {
        TwoKerbs x = new TwoKerbs();
        Check.type(x, text);
        check.due("towns() of \"" + text + "\"", x.towns(), want);
        check.due("letters then of \"" + text + "\"", x.count(7), want < 0 ? text.length() : 0);
    }

    private static void faultChangesNothing() {
        TwoKerbs x = Check.told("m7 2 1;k0 3;k1 0;d1 0 3;t1;");
        x.tides(1);
        x.found(0, 1);
        x.saw(0, 1);
        x.keep(0);
        Check.type(x, "m3 1 1;k1 9;k1 9;k1 9;d0 0 2;t0;t0;q");
        check.due("towns() of a faulty one", x.towns(), -45);
        int[] counts = {2, 1, 7, 2, 1, 1, 1, 36};
        for (int what = 0; what < counts.length; what++) {
            check.due("faulty: count(" + what + ")", x.count(what), counts[what]);
        }
        check.due("faulty: kerb(0, 1)", x.kerb(0, 1), 3);
        check.due("faulty: kerb(1, 3)", x.kerb(1, 3), 3);
        check.due("faulty: thing(0, 2)", x.thing(0, 2), 2);
        check.due("faulty: now(0)", x.now(0), 1);
        check.due("faulty: now(4)", x.now(4), 1);
        check.due("faulty: back(0)", x.back(0), 1);
    }

    private static void readAnew() {
        TwoKerbs x = Check.told("m7 2 1;k0 0;k1 0;d0 1 3;t0;t1;");
        x.ties(1, 1);
        x.tides(2);
        x.keep(0);
        x.keep(1);
        x.found(0, 0);
        x.saw(0, 0);
        x.rate(0, 0);
        Check.type(x, "k1 5;t0;t0;");
        check.due("read anew", x.towns(), 3);
        int[] counts = {1, 2, 10, 3, 0, 0, 0, 0};
        for (int what = 0; what < counts.length; what++) {
            check.due("anew: count(" + what + ")", x.count(what), counts[what]);
        }
        int[] nows = {0, 0, 0, 0, 0};
        for (int what = 0; what < nows.length; what++) {
            check.due("anew: now(" + what + ")", x.now(what), nows[what]);
        }
        check.due("anew: thing(0, 0)", x.thing(0, 0), 0);
        check.due("anew: thing(1, 3)", x.thing(1, 3), 0);
        check.due("anew: kerb(0, 2)", x.kerb(0, 2), 0);
        check.due("anew: kerb(0, 3)", x.kerb(0, 3), 1);
        check.due("anew: undo()", x.undo(), TwoKerbs.STATE);
        check.due("anew: back(0)", x.back(0), TwoKerbs.STATE);
        check.due("anew: back(1)", x.back(1), TwoKerbs.STATE);
        check.due("anew: trace() is not told by a text", x.trace(), 1);
        x.ties(1, 1);
        Check.type(x, "k0 0;t0;");
        x.towns();
        check.due("anew: a thing that is no more is not tied", x.ties(0, 1), 1);
        Check.type(x, "");
        check.due("an empty text", x.towns(), 0);
        check.due("no kerbs then", x.count(0), 0);
        check.due("no things then", x.count(1), 0);
    }

    /** A text is read without regard to the one ahead of it, be that faulty or longer. */
    private static void textsAheadAreGone() {
        TwoKerbs x = new TwoKerbs();
        Check.type(x, "m5 1 1;k0 0;k1 1;d0 1 2;t0;q");
        x.towns();
        x.clear();
        Check.type(x, "k1 7;");
        check.due("behind a faulty one", x.towns(), 1);
        int[] counts = {1, 0, 10, 3, 0, 0, 0, 0};
        for (int what = 0; what < counts.length; what++) {
            check.due("behind a faulty one: count(" + what + ")", x.count(what), counts[what]);
        }
        check.due("behind a faulty one: kerb(0, 2)", x.kerb(0, 2), 0);
        Check.type(x, "k0 123   ;");
        x.clear();
        Check.type(x, "k0 1");
        check.due("behind a longer one with digits", x.towns(), -14);
        x.clear();
        Check.type(x, "k0      ;");
        x.clear();
        Check.type(x, "k0");
        check.due("behind a longer one with blanks", x.towns(), -12);
    }

    private static void kerbs() {
        TwoKerbs x = Check.told("k0 4;k1 19;k0 0;d0 1 4;d0 2 3;t2;t0;t2;");
        int[][] want = {{0, 4, 2, 3, 2}, {1, 19, 1, 1, 0}, {0, 0, 2, 1, 5}};
        for (int k = 0; k < want.length; k++) {
            for (int what = 0; what < 5; what++) {
                check.due("kerb(" + k + ", " + what + ")", x.kerb(k, what), want[k][what]);
            }
        }
        check.due("kerb(3, 0)", x.kerb(3, 0), TwoKerbs.BAD);
        check.due("kerb(-1, 0)", x.kerb(-1, 0), TwoKerbs.BAD);
        check.due("kerb(0, -1)", x.kerb(0, -1), TwoKerbs.BAD);
        check.due("kerb(0, 5)", x.kerb(0, 5), TwoKerbs.BAD);
        x.tides(3);
        check.due("nothing lies on it that is under way", x.kerb(0, 4) + x.kerb(2, 4), 5);
    }

    private static void things() {
        TwoKerbs x = Check.told("k0 0;k1 5;d0 1 3;t0;t1;");
        x.ties(1, 1);
        x.tides(1);
        int[][] want = {{TwoKerbs.NONE, 1, 2, 0}, {1, 1, 0, 1}};
        for (int t = 0; t < want.length; t++) {
            for (int what = 0; what < 4; what++) {
                check.due("thing(" + t + ", " + what + ")", x.thing(t, what), want[t][what]);
            }
        }
        check.due("thing(2, 0)", x.thing(2, 0), TwoKerbs.BAD);
        check.due("thing(-1, 0)", x.thing(-1, 0), TwoKerbs.BAD);
        check.due("thing(0, -1)", x.thing(0, -1), TwoKerbs.BAD);
        check.due("thing(0, 4)", x.thing(0, 4), TwoKerbs.BAD);
    }

    private static void nows() {
        TwoKerbs x = Check.told("m10 4 1;k0 0;k0 9;k1 5;t0;t2;");
        x.tides(1);
        int[] want = {1, 5, 1, 5, 1};
        for (int what = 0; what < want.length; what++) {
            check.due("now(" + what + ")", x.now(what), want[what]);
        }
        check.due("now(-1)", x.now(-1), TwoKerbs.BAD);
        check.due("now(5)", x.now(5), TwoKerbs.BAD);
    }
}
