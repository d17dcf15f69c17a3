/** The document's part 4 and "A new object": each sentence that names a boundary case, with a test of its own. */
final class KindsEdgesTest {
    private static final Check check = new Check();

    public static void main(String[] args) {
        newObjectIsAsOneReadAnew();
        highestRates();
        lowestRates();
        ratesOfTheEighth();
        tracesOfEachKind();
        tracesOfRefusedRates();
        traceStays();
        imagesAreTwo();
        imageIsKeptAnew();
        imageIsNotUsedUp();
        nothingIsUndoneBehindBack();
        imageOfAnUndoneState();
        imagesAreGoneWhenReadAnew();
        countsAtTheirMost();
        lookingChangesNothing();
        check.end();
    }

    private static void newObjectIsAsOneReadAnew() {
        TwoKerbs x = Check.told("m5 4 3;k0 0;t0;");
        x.tides(3);
        x.towns();
        check.holds("an empty text makes it new", Look.through(x).equals(Look.through(new TwoKerbs())));
    }

    private static void rates(String told, TwoKerbs x, int k, int... want) {
        for (int kind = 0; kind < want.length; kind++) {
            check.due(told + ": rate(" + kind + ", " + k + ")", x.rate(kind, k), want[kind]);
        }
    }

    private static void highestRates() {
        TwoKerbs x = Check.told("m2 0 0;k0 19;d0 0 4;t0;t0;t0;t0;t0;");
        rates("HEIGHT 19, five things, LEVEL 0", x, 0, 19, 24, 19, 48, 19, 23);
    }

    private static void lowestRates() {
        TwoKerbs x = Check.told("m20 0 19;k0 0;");
        rates("HEIGHT 0, nothing, LEVEL 19", x, 0, 0, 0, -19, 0, -19, 1);
        check.due("BUTCHER of 1", Check.told("m20 0 19;k0 0;k0 18;").rate(4, 1), 0);
        check.due("NO is no rate", x.rate(2, 1), TwoKerbs.NO);
    }

    private static void ratesOfTheEighth() {
        TwoKerbs x = Check.told("k0 0;k0 0;k0 0;k0 0;k0 0;k0 0;k0 0;k1 5;d7 0 3;t7;t0;");
        rates("the eighth in tide 0", x, 7, 5, 6, 5, 12, 12, 8);
        x.tides(1);
        rates("the eighth in tide 1", x, 7, 5, 6, 2, 12, 9, 8);
        x.tides(2);
        rates("its thing is under way", x, 7, 5, 5, -4, 10, 3, 8);
    }

    private static void tracesOfEachKind() {
        int[] want = {1, 11, 101, 1011, 10101, 100001};
        for (int kind = 0; kind < want.length; kind++) {
            TwoKerbs x = Check.told("k0 0;");
            check.due("0 at first", x.trace(), 0);
            x.rate(kind, 0);
            check.due("kind " + kind, x.trace(), want[kind]);
            x.rate(kind, 0);
            check.due("kind " + kind + " again", x.trace(), 2 * want[kind]);
        }
    }

    private static void tracesOfRefusedRates() {
        TwoKerbs x = Check.told("k0 0;");
        int[][] wrong = {{-1, 0}, {6, 0}, {0, -1}, {0, 1}, {5, 1}, {6, 1}};
        for (int[] numbers : wrong) {
            check.due("rate(" + numbers[0] + ", " + numbers[1] + ")", x.rate(numbers[0], numbers[1]), TwoKerbs.NO);
            check.due("no trace of it", x.trace(), 0);
        }
        check.due("no kerbs", new TwoKerbs().rate(0, 0), TwoKerbs.NO);
    }

    /** No sentence takes anything away from THE TRACE. */
    private static void traceStays() {
        TwoKerbs x = Check.told("k0 0;t0;");
        x.keep(0);
        x.tides(1);
        x.rate(3, 0);
        x.undo();
        check.due("behind undo()", x.trace(), 1011);
        x.back(0);
        check.due("behind back()", x.trace(), 1011);
        x.forget();
        x.clear();
        check.due("behind forget() and clear()", x.trace(), 1011);
        x.towns();
        check.due("behind towns()", x.trace(), 1011);
    }

    private static void imagesAreTwo() {
        TwoKerbs x = Check.told("m2 0 0;k0 0;k1 0;d0 1 1;d1 0 1;t0;");
        check.due("keep(0)", x.keep(0), 0);
        x.tides(3);
        check.due("back(1) was not kept", x.back(1), TwoKerbs.STATE);
        check.due("keep(1)", x.keep(1), 3);
        x.tides(2);
        check.due("back(0)", x.back(0), 0);
        check.due("it lies on 0", x.thing(0, 0), 0);
        check.due("DRIFTS", x.now(2), 0);
        check.due("back(1)", x.back(1), 3);
        check.due("it lies on 1", x.thing(0, 0), 1);
        check.due("DRIFTS then", x.now(2), 3);
        check.due("keep(-1)", x.keep(-1), TwoKerbs.BAD);
        check.due("keep(2)", x.keep(2), TwoKerbs.BAD);
    }

    private static void imageIsKeptAnew() {
        TwoKerbs x = Check.told("m2 0 0;k0 0;t0;");
        x.keep(0);
        x.tides(9);
        check.due("keep(0) again", x.keep(0), 9);
        x.tides(9);
        check.due("the later one", x.back(0), 9);
        check.due("DRIFTS", x.now(2), 9);
    }

    private static void imageIsNotUsedUp() {
        TwoKerbs x = Check.told("m2 0 0;k0 0;k0 0;d0 1 4;t0;t1;");
        x.tides(1);
        x.ties(1, 1);
        x.keep(1);
        for (int i = 0; i < 3; i++) {
            x.ties(1, 0);
            x.tides(5);
            check.due("back(1)", x.back(1), 1);
            check.due("under way to", x.thing(0, 1), 1);
            check.due("tides to go", x.thing(0, 2), 3);
            check.due("TIED", x.thing(1, 3), 1);
        }
    }

    private static void nothingIsUndoneBehindBack() {
        TwoKerbs x = Check.told("m2 0 0;k0 0;t0;");
        x.tides(1);
        x.tides(1);
        x.keep(0);
        check.due("keep() leaves all", x.now(4), 2);
        x.back(0);
        check.due("back() leaves none", x.now(4), 0);
        check.due("undo()", x.undo(), TwoKerbs.STATE);
        x.tides(5);
        check.due("what is done then", x.now(4), 1);
        check.due("can be undone", x.undo(), 0);
        check.due("THE TIDE", x.now(0), 2);
    }

    private static void imageOfAnUndoneState() {
        TwoKerbs x = Check.told("m2 0 0;k0 0;t0;");
        x.tides(4);
        x.keep(0);
        x.undo();
        check.due("undo() does not touch the image", x.back(0), 4);
        check.due("DRIFTS", x.now(2), 4);
    }

    private static void imagesAreGoneWhenReadAnew() {
        TwoKerbs x = Check.told("k0 0;t0;");
        x.keep(0);
        x.keep(1);
        x.tides(1);
        Check.type(x, "k0 0;t0;");
        x.towns();
        check.due("back(0)", x.back(0), TwoKerbs.STATE);
        check.due("back(1)", x.back(1), TwoKerbs.STATE);
        check.due("undo()", x.undo(), TwoKerbs.STATE);
        check.due("keep(1)", x.keep(1), 0);
        check.due("back(0) then", x.back(0), TwoKerbs.STATE);
        check.due("back(1) then", x.back(1), 0);
    }

    private static void countsAtTheirMost() {
        TwoKerbs x = Check.told("m20 19 18;k0 0;k0 0;k0 0;k0 0;k0 0;k0 0;k0 0;k0 0;t0;t0;t0;t0;t0;");
        for (int i = 0; i < 9; i++) {
            x.found(0, 0);
            x.saw(0, 0);
        }
        Check.type(x, ";".repeat(152));
        int[] want = {8, 5, 20, 19, 18, 6, 6, 150};
        for (int what = 0; what < want.length; what++) {
            check.due("count(" + what + ")", x.count(what), want[what]);
        }
        check.due("count(8)", x.count(8), TwoKerbs.BAD);
        check.due("count(-1)", x.count(-1), TwoKerbs.BAD);
    }

    private static TwoKerbs busy() {
        TwoKerbs x = Check.told("m12 5 7;k0 4;k1 9;k0 19;d0 1 4;t0;t2;t0;");
        x.ties(2, 1);
        x.keep(0);
        x.tides(1);
        x.found(2, 1);
        x.saw(1, 0);
        Check.type(x, "k1 7;t0;");
        return x;
    }

    /** "As things are NOW; nothing is changed." */
    private static void lookingChangesNothing() {
        TwoKerbs x = busy();
        for (int t = 0; t < 3; t++) {
            x.where(t, 400);
            x.when(t, 1);
            x.send(t, 1, t % 2);
            x.meet(t, (t + 1) % 3);
            x.round(t);
            x.odds(t, 1, 4, 5, t % 2);
            x.level(9999 - t);
            x.flood(9999 - t);
            x.high(17 + t);
        }
        x.began();
        x.laws(0);
        x.laws(1);
        check.holds("looking changes nothing", Look.through(x).equals(Look.through(busy())));
    }
}
