/** The document's part 2, with LEVEL: each sentence that names a boundary case, with a test of its own. */
final class DoneEdgesTest {
    private static final Check check = new Check();
    private static final int NONE = TwoKerbs.NONE;
    private static final String TO_AND_FRO = "m2 0 0;k0 0;k0 0;d0 1 1;d1 0 1;t0;";

    public static void main(String[] args) {
        levelIsWhatIsLeftOver();
        levelAtMostNineteen();
        driftsIfHeightIsLevelOrLess();
        delayOfOneAndOfFour();
        drainToItself();
        driftsAreCounted();
        tidesOneAndNinetyNine();
        tideIsAtMost9999();
        tiedOnesAreCounted();
        carriedToAndFro();
        tenAreUndoneAndNotEleven();
        undoneOnesMakeRoom();
        undoneByWhatWasDone();
        check.end();
    }

    private static void levelIsWhatIsLeftOver() {
        TwoKerbs x = Check.told("m7 3 1;");
        check.due("1 by 7", x.level(0), 1);
        check.due("7 by 7 is 0", x.level(2), 0);
        check.due("13 by 7 is the greatest", x.level(4), 6);
        check.due("29998 by 7", x.level(9999), 29998 % 7);
        check.due("STEP 0", Check.told("m7 0 6;").level(9999), 6);
        check.due("MODULO 2", Check.told("m2 1 1;").level(9999), 0);
    }

    private static void levelAtMostNineteen() {
        TwoKerbs x = Check.told("m20 19 19;");
        check.due("19", x.level(0), 19);
        check.due("38 by 20", x.level(1), 18);
        check.due("0", x.level(19), 0);
        check.due("190000 by 20", x.level(9999), 0);
    }

    private static void driftsIfHeightIsLevelOrLess() {
        for (int height = 4; height <= 6; height++) {
            TwoKerbs x = Check.told("m10 0 5;k0 " + height + ";t0;");
            check.due("HEIGHT " + height + ", LEVEL 5: tides(1)", x.tides(1), height <= 5 ? 1 : 0);
            check.due("HEIGHT " + height + ", LEVEL 5: now(3)", x.now(3), height <= 5 ? 1 : 0);
            check.due("HEIGHT " + height + ", LEVEL 5: flood(0)", x.flood(0), height <= 5 ? 1 : 0);
        }
        check.due("HEIGHT 0, LEVEL 0", Check.told("m2 0 0;k0 0;t0;").tides(1), 1);
        check.due("HEIGHT 19, LEVEL 19", Check.told("m20 0 19;k0 19;t0;").tides(1), 1);
        check.due("HEIGHT 19, LEVEL 18", Check.told("m20 0 18;k0 19;t0;").tides(99), 0);
    }

    private static void delayOfOneAndOfFour() {
        for (int delay = 1; delay <= 4; delay++) {
            TwoKerbs x = Check.told("m2 0 0;k0 0;k1 19;d0 1 " + delay + ";t0;");
            for (int gone = 1; gone < delay; gone++) {
                x.tides(1);
                check.due("DELAY " + delay + ": tides to go", x.thing(0, 2), delay - gone);
                check.due("DELAY " + delay + ": it lies nowhere", x.thing(0, 0), NONE);
                check.due("DELAY " + delay + ": it leads to", x.thing(0, 1), 1);
                check.due("DELAY " + delay + ": on 0", x.kerb(0, 4), 0);
                check.due("DELAY " + delay + ": on 1", x.kerb(1, 4), 0);
            }
            x.tides(1);
            check.due("DELAY " + delay + ": none to go", x.thing(0, 2), 0);
            check.due("DELAY " + delay + ": it lies on", x.thing(0, 0), 1);
            check.due("DELAY " + delay + ": the KERB where it lies", x.thing(0, 1), 1);
            check.due("DELAY " + delay + ": on 1 at last", x.kerb(1, 4), 1);
        }
    }

    private static void drainToItself() {
        TwoKerbs x = Check.told("m2 0 0;k0 0;d0 0 2;t0;");
        check.due("it drifts", x.tides(1), 1);
        check.due("it does not lie on its kerb", x.kerb(0, 4), 0);
        check.due("nothing drifts", x.tides(1), 0);
        check.due("it lies there again", x.kerb(0, 4), 1);
        check.due("when()", x.when(0, 0), 2);
        x.tides(1);
        check.due("when() under way to its own", x.when(0, 0), 4);
    }

    private static void driftsAreCounted() {
        TwoKerbs x = Check.told("m2 0 0;k0 0;k0 19;t0;t1;t0;t0;t0;");
        check.due("in them", x.tides(99), 4 * 99);
        check.due("in these alone", x.tides(1), 4);
        check.due("in all", x.now(2), 400);
    }

    private static void tidesOneAndNinetyNine() {
        TwoKerbs x = Check.told(TO_AND_FRO);
        check.due("tides(1)", x.tides(1), 1);
        check.due("THE TIDE", x.now(0), 1);
        check.due("tides(99)", x.tides(99), 99);
        check.due("THE TIDE then", x.now(0), 100);
        check.due("without things", new TwoKerbs().tides(99), 0);
    }

    private static void tideIsAtMost9999() {
        TwoKerbs x = Check.told(TO_AND_FRO);
        for (int i = 0; i < 100; i++) {
            x.tides(99);
        }
        check.due("to 9998", x.tides(98), 98);
        check.due("2 more", x.tides(2), TwoKerbs.STATE);
        check.due("to 9999", x.tides(1), 1);
        check.due("1 more", x.tides(1), TwoKerbs.STATE);
        check.due("THE TIDE", x.now(0), 9999);
        check.due("its LEVEL", x.now(1), x.level(9999));
        check.due("DRIFTS", x.now(2), 9999);
        check.due("keep()", x.keep(0), 9999);
        check.due("where() goes on", x.where(0, 400), x.thing(0, 0));
        check.due("when() goes on", x.when(0, 0), 10000);
        x.undo();
        check.due("a tide again", x.tides(1), 1);
    }

    private static void tiedOnesAreCounted() {
        TwoKerbs x = Check.told("m2 0 0;k0 0;t0;t0;t0;t0;t0;");
        for (int t = 0; t < 5; t++) {
            check.due("none is TIED at first", x.thing(t, 3), 0);
        }
        for (int t = 0; t < 5; t++) {
            check.due("ties(" + t + ", 1)", x.ties(t, 1), t + 1);
        }
        check.due("all are TIED", x.tides(99), 0);
        for (int t = 0; t < 5; t++) {
            check.due("ties(" + t + ", 0)", x.ties(t, 0), 4 - t);
        }
        check.due("none is TIED", x.tides(1), 5);
    }

    private static void carriedToAndFro() {
        TwoKerbs x = Check.told("k1 19;k0 19;k1 19;t0;");
        check.due("to the last KERB", x.carries(0, 2), 0);
        check.due("to the first KERB", x.carries(0, 0), 2);
        check.due("to the one between, of another TOWN", x.carries(0, 1), TwoKerbs.STATE);
        check.due("where it lies", x.thing(0, 0), 0);
        check.due("DRIFTS", x.now(2), 0);
    }

    private static void tenAreUndoneAndNotEleven() {
        for (int done = 9; done <= 11; done++) {
            TwoKerbs x = Check.told(TO_AND_FRO);
            for (int i = 0; i < done; i++) {
                x.tides(1);
            }
            int known = Math.min(done, 10);
            check.due(done + " done: now(4)", x.now(4), known);
            for (int left = known - 1; left >= 0; left--) {
                check.due(done + " done: undo()", x.undo(), left);
                check.due(done + " done: now(4) then", x.now(4), left);
            }
            check.due(done + " done: once more", x.undo(), TwoKerbs.STATE);
            check.due(done + " done: THE TIDE", x.now(0), done - known);
        }
    }

    private static void undoneOnesMakeRoom() {
        TwoKerbs x = Check.told(TO_AND_FRO);
        for (int i = 0; i < 10; i++) {
            x.tides(1);
        }
        x.undo();
        x.undo();
        x.tides(7);
        x.tides(7);
        check.due("to undo", x.now(4), 10);
        for (int left = 9; left >= 0; left--) {
            check.due("undo()", x.undo(), left);
            check.due("THE TIDE", x.now(0), left == 9 ? 15 : left);
        }
        check.due("no more", x.undo(), TwoKerbs.STATE);
    }

    /** Calls of all three kinds are known, and no other one is. */
    private static void undoneByWhatWasDone() {
        TwoKerbs x = Check.told("m2 0 0;k0 19;k0 19;t0;");
        x.ties(0, 1);
        x.carries(0, 1);
        x.tides(3);
        x.found(0, 0);
        x.saw(0, 0);
        x.forget();
        x.keep(0);
        x.rate(0, 0);
        x.type('k');
        x.clear();
        x.where(0, 9);
        check.due("to undo", x.now(4), 3);
        check.due("undo() of tides()", x.undo(), 2);
        check.due("THE TIDE", x.now(0), 0);
        check.due("it lies on", x.thing(0, 0), 1);
        check.due("undo() of carries()", x.undo(), 1);
        check.due("it lies on its first", x.thing(0, 0), 0);
        check.due("it is TIED", x.thing(0, 3), 1);
        check.due("undo() of ties()", x.undo(), 0);
        check.due("it is not TIED", x.thing(0, 3), 0);
        check.due("the image is still kept", x.back(0), 3);
    }
}
