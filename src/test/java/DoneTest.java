/** Promises 8 to 11: tides, ties, carries, undo. */
final class DoneTest {
    private static final Check check = new Check();

    public static void main(String[] args) {
        tidesGoBy();
        tidesHaveAnEnd();
        thingsAreTied();
        thingsAreCarried();
        allIsUndone();
        tenAreKnown();
        refusedIsNotUndone();
        check.end();
    }

    private static void tidesGoBy() {
        // Levels: 0, 3, 6, 9, 2, 5, 8, 1, 4, 7.
        TwoKerbs x = Check.told("k0 3;k1 9;k0 2;d0 1 2;d1 2 4;t0;");
        check.due("tide 0 is too low", x.tides(1), 0);
        check.due("it lies", x.thing(0, 0), 0);
        check.due("tide 1 is as high as the kerb", x.tides(1), 1);
        check.due("under way to", x.thing(0, 1), 1);
        check.due("one tide more", x.thing(0, 2), 1);
        check.due("nothing drifts that is under way", x.tides(1), 0);
        check.due("it has come", x.thing(0, 0), 1);
        check.due("tide 3 and the way", x.tides(4), 1);
        check.due("it has come to 2", x.thing(0, 0), 2);
        check.due("tides 7, 8, 9: a drain to itself is drifting, too", x.tides(3), 2);
        check.due("drifts", x.now(2), 4);
        check.due("tides(0)", x.tides(0), TwoKerbs.BAD);
        check.due("tides(-1)", x.tides(-1), TwoKerbs.BAD);
        check.due("tides(100)", x.tides(100), TwoKerbs.BAD);
        check.due("the tide", x.now(0), 10);
    }

    private static void tidesHaveAnEnd() {
        TwoKerbs x = Check.told("m2 0 0;k0 0;t0;t0;t0;t0;t0;");
        for (int i = 0; i < 101; i++) {
            check.due("tides(99)", x.tides(99), 495);
        }
        check.due("the last tide", x.now(0), 9999);
        check.due("drifts", x.now(2), 49995);
        check.due("a tide too many", x.tides(1), TwoKerbs.STATE);
        check.due("BAD ahead of STATE", x.tides(100), TwoKerbs.BAD);
        check.due("high(0)", x.high(0), 9999);
        check.due("undo()", x.undo(), 9);
        check.due("a tide less", x.tides(98), 490);
        check.due("two tides too many", x.tides(2), TwoKerbs.STATE);
        check.due("the last one", x.tides(1), 5);
    }

    private static void thingsAreTied() {
        TwoKerbs x = Check.told("k0 0;k0 0;d0 1 2;t0;t0;t1;");
        check.due("ties(0, 1)", x.ties(0, 1), 1);
        check.due("ties(2, 1)", x.ties(2, 1), 2);
        check.due("it is so", x.ties(0, 1), TwoKerbs.STATE);
        check.due("it is not, too", x.ties(1, 0), TwoKerbs.STATE);
        check.due("only what is not tied drifts", x.tides(1), 1);
        check.due("under way, 1", x.ties(1, 1), TwoKerbs.STATE);
        check.due("under way, 0", x.ties(1, 0), TwoKerbs.STATE);
        check.due("BAD ahead of STATE", x.ties(1, 2), TwoKerbs.BAD);
        check.due("ties(0, -1)", x.ties(0, -1), TwoKerbs.BAD);
        check.due("ties(3, 1)", x.ties(3, 1), TwoKerbs.BAD);
        check.due("ties(-1, 1)", x.ties(-1, 1), TwoKerbs.BAD);
        check.due("ties(0, 0)", x.ties(0, 0), 1);
        check.due("it drifts again", x.tides(1), 1);
    }

    private static void thingsAreCarried() {
        TwoKerbs x = Check.told("k0 0;k1 0;k0 9;d0 1 3;t0;t2;");
        check.due("it lies there", x.carries(0, 0), TwoKerbs.STATE);
        check.due("another town", x.carries(0, 1), TwoKerbs.STATE);
        check.due("carries(0, 3)", x.carries(0, 3), TwoKerbs.BAD);
        check.due("carries(0, -1)", x.carries(0, -1), TwoKerbs.BAD);
        check.due("carries(2, 0)", x.carries(2, 0), TwoKerbs.BAD);
        check.due("carries(-1, 0)", x.carries(-1, 0), TwoKerbs.BAD);
        check.due("carries(1, 0)", x.carries(1, 0), 2);
        check.due("where it lies", x.thing(1, 0), 0);
        x.ties(1, 1);
        check.due("a tied one", x.carries(1, 2), 0);
        check.due("is tied still", x.thing(1, 3), 1);
        x.tides(1);
        check.due("under way", x.carries(0, 2), TwoKerbs.STATE);
        check.due("BAD ahead of STATE", x.carries(0, 3), TwoKerbs.BAD);
    }

    private static void allIsUndone() {
        TwoKerbs x = Check.told("k0 0;k0 0;k1 0;d0 2 3;t0;t1;");
        x.ties(1, 1);
        x.carries(1, 0);
        x.tides(2);
        check.due("to undo", x.now(4), 3);
        check.due("undo() of tides()", x.undo(), 2);
        check.due("the tide", x.now(0), 0);
        check.due("drifts", x.now(2), 0);
        check.due("where 0 lies", x.thing(0, 0), 0);
        check.due("tides to go", x.thing(0, 2), 0);
        check.due("undo() of carries()", x.undo(), 1);
        check.due("where 1 lies", x.thing(1, 0), 1);
        check.due("it is tied", x.thing(1, 3), 1);
        check.due("undo() of ties()", x.undo(), 0);
        check.due("it is not tied", x.thing(1, 3), 0);
        check.due("nothing is left", x.undo(), TwoKerbs.STATE);
        x.tides(1);
        x.tides(1);
        x.undo();
        check.due("under way again", x.thing(0, 2), 2);
        check.due("drifts again", x.now(2), 2);
        check.due("the tide again", x.now(0), 1);
        check.due("to 2", x.thing(0, 1), 2);
    }

    private static void tenAreKnown() {
        TwoKerbs x = Check.told("k0 0;t0;");
        for (int n = 1; n <= 23; n++) {
            x.tides(n);
            check.due("to undo behind " + n, x.now(4), Math.min(n, 10));
        }
        int tide = 23 * 24 / 2;
        for (int left = 9; left >= 0; left--) {
            check.due("undo() to " + left, x.undo(), left);
            tide -= 14 + left;
            check.due("the tide at " + left, x.now(0), tide);
        }
        check.due("older ones are lost", x.undo(), TwoKerbs.STATE);
        check.due("the tide stays", x.now(0), 13 * 14 / 2);
    }

    private static void refusedIsNotUndone() {
        TwoKerbs x = Check.told("k0 0;k1 0;t0;");
        x.tides(0);
        x.ties(0, 0);
        x.ties(0, 2);
        x.carries(0, 0);
        x.carries(0, 1);
        x.carries(0, 2);
        check.due("to undo", x.now(4), 0);
        check.due("undo()", x.undo(), TwoKerbs.STATE);
    }
}
