/** Promises 26 to 30: rate, keep, back, count, trace. */
final class KindsTest {
    private static final Check check = new Check();

    public static void main(String[] args) {
        rates();
        ratesOfWrongOnes();
        images();
        imagesKeepNowAlone();
        counts();
        check.end();
    }

    private static void rates() {
        // In tide 1 the level is 5; kerb 2 has height 7, delay 4, and things 0 and 2 lie on it.
        TwoKerbs x = Check.told("m10 4 1;k0 0;k1 2;k0 7;d2 0 4;t2;t1;t2;");
        x.tides(1);
        int[] want = {7, 9, 2, 18, 4, 11};
        long[] bodies = {1, 11, 101, 1011, 10101, 100001};
        long trace = 0;
        for (int kind = 0; kind < want.length; kind++) {
            check.due("rate(" + kind + ", 2)", x.rate(kind, 2), want[kind]);
            trace += bodies[kind];
            check.due("trace() behind kind " + kind, x.trace(), trace);
        }
        check.due("below 0", x.rate(2, 0), -5);
        check.due("of 1", x.rate(4, 1), -2);
        x.undo();
        x.tides(2);
        check.due("the trace is not undone", x.trace(), trace + 101 + 10101);
        TwoKerbs away = Check.told("m10 4 1;k0 0;d0 0 4;t0;t0;");
        away.tides(1);
        check.due("what is under way does not lie on it", away.rate(1, 0), 0);
    }

    private static void ratesOfWrongOnes() {
        TwoKerbs x = Check.told("k0 0;");
        check.due("rate(6, 0)", x.rate(6, 0), TwoKerbs.NO);
        check.due("rate(-1, 0)", x.rate(-1, 0), TwoKerbs.NO);
        check.due("rate(0, 1)", x.rate(0, 1), TwoKerbs.NO);
        check.due("rate(0, -1)", x.rate(0, -1), TwoKerbs.NO);
        check.due("no body was asked", x.trace(), 0);
    }

    private static void images() {
        TwoKerbs x = Check.told("k0 0;k0 0;d0 1 3;t0;t1;");
        check.due("none was kept", x.back(0), TwoKerbs.STATE);
        check.due("keep(-1)", x.keep(-1), TwoKerbs.BAD);
        check.due("keep(2)", x.keep(2), TwoKerbs.BAD);
        check.due("back(-1)", x.back(-1), TwoKerbs.BAD);
        check.due("back(2)", x.back(2), TwoKerbs.BAD);
        x.ties(1, 1);
        x.tides(1);
        check.due("keep(0)", x.keep(0), 1);
        check.due("the other was not kept", x.back(1), TwoKerbs.STATE);
        check.due("keep() is not undone", x.now(4), 2);
        x.tides(4);
        x.ties(1, 0);
        x.carries(1, 0);
        check.due("keep(1)", x.keep(1), 5);
        check.due("back(0)", x.back(0), 1);
        check.due("drifts", x.now(2), 1);
        check.due("0 is under way", x.thing(0, 0), TwoKerbs.NONE);
        check.due("to 1", x.thing(0, 1), 1);
        check.due("two tides more", x.thing(0, 2), 2);
        check.due("1 is tied", x.thing(1, 3), 1);
        check.due("1 lies on", x.thing(1, 0), 1);
        check.due("nothing can be undone", x.undo(), TwoKerbs.STATE);
        check.due("to undo", x.now(4), 0);
        check.due("back(1)", x.back(1), 5);
        check.due("1 lies on 0", x.thing(1, 0), 0);
        check.due("1 is not tied", x.thing(1, 3), 0);
        check.due("back(0) again", x.back(0), 1);
        x.tides(1);
        check.due("undone to the image", x.undo(), 0);
        check.due("the image's tide", x.now(0), 1);
    }

    private static void imagesKeepNowAlone() {
        TwoKerbs x = Check.told("k0 0;t0;");
        x.keep(0);
        x.found(0, 0);
        x.saw(0, 0);
        x.rate(0, 0);
        x.type('k');
        x.back(0);
        check.due("found", x.count(5), 1);
        check.due("seen", x.count(6), 1);
        check.due("letters", x.count(7), 1);
        check.due("trace", x.trace(), 1);
    }

    private static void counts() {
        TwoKerbs x = Check.told("m13 5 12;k0 0;k0 1;k1 2;t0;t1;");
        x.found(0, 0);
        x.saw(0, 0);
        x.saw(0, 0);
        Check.type(x, "k0 0");
        int[] want = {3, 2, 13, 5, 12, 1, 2, 4};
        for (int what = 0; what < want.length; what++) {
            check.due("count(" + what + ")", x.count(what), want[what]);
        }
        check.due("count(-1)", x.count(-1), TwoKerbs.BAD);
        check.due("count(8)", x.count(8), TwoKerbs.BAD);
    }
}
