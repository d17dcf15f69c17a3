import java.util.function.ToIntFunction;

/**
 * "Refused, and nothing changes, the first of these: BAD (a number is not as told, or there is no such thing),
 * STATE (as told), FULL." What is BAD for one number alone is in BoundsTest.
 */
final class RefusedTest {
    private static final Check check = new Check();

    public static void main(String[] args) {
        statesOfTies();
        statesOfCarries();
        statesOfSend();
        stateOfTides();
        stateOfUndo();
        stateOfBack();
        fullText();
        fullFound();
        fullSeen();
        faultOfTowns();
        badAheadOfState();
        badAheadOfFull();
        refusedCallsAreNotToBeUndone();
        oldestIsNotLostByARefusedCall();
        check.end();
    }

    /** Thing 0 is under way to 1, 1 lies on 2, 2 lies on 0 and is tied; something of all that is kept. */
    private static TwoKerbs busy() {
        TwoKerbs x = Check.told("m12 5 7;k0 4;k1 9;k0 19;d0 1 4;t0;t2;t0;");
        x.ties(2, 1);
        x.keep(1);
        x.tides(1);
        x.found(2, 1);
        x.saw(1, 0);
        x.rate(4, 1);
        Check.type(x, "k1 7;t0;");
        return x;
    }

    private static TwoKerbs full() {
        TwoKerbs x = busy();
        for (int i = 1; i < 6; i++) {
            x.found(2, i);
            x.saw(i, 5 * (i - 1) % 12);
        }
        Check.type(x, " ".repeat(142));
        return x;
    }

    /** A small one: its way there and a look through it take nearly all of the 512 calls that are promised. */
    private static TwoKerbs atTheLastTide() {
        TwoKerbs x = Check.told("k0 4;k1 0;d0 1 4;d1 0 3;t0;");
        x.keep(1);
        x.tides(1);
        for (int i = 0; i < 100; i++) {
            x.tides(99);
        }
        x.tides(98);
        return x;
    }

    private static TwoKerbs empty() {
        return new TwoKerbs();
    }

    /** The call is refused so, and the object is behind it as one that never got it. */
    private static void refused(String told, TwoKerbs x, TwoKerbs twin, int want, ToIntFunction<TwoKerbs> call) {
        check.due(told, call.applyAsInt(x), want);
        check.holds(told + " changes nothing", Look.through(x).equals(Look.through(twin)));
    }

    private static void state(String told, ToIntFunction<TwoKerbs> call) {
        refused(told, busy(), busy(), TwoKerbs.STATE, call);
    }

    private static void statesOfTies() {
        state("ties: it is tied", x -> x.ties(2, 1));
        state("ties: it is not tied", x -> x.ties(1, 0));
        state("ties: under way, 1", x -> x.ties(0, 1));
        state("ties: under way, 0", x -> x.ties(0, 0));
    }

    private static void statesOfCarries() {
        state("carries: under way, to the kerb where it began", x -> x.carries(0, 0));
        state("carries: under way, to the kerb to which it leads", x -> x.carries(0, 1));
        state("carries: of another town", x -> x.carries(1, 1));
        state("carries: it lies there", x -> x.carries(1, 2));
        state("carries: it is tied there", x -> x.carries(2, 0));
    }

    private static void statesOfSend() {
        state("send: under way, which", x -> x.send(0, 1, 0));
        state("send: under way, the tide", x -> x.send(0, 1, 1));
    }

    private static void stateOfTides() {
        check.due("the last tide", atTheLastTide().now(0), 9999);
        for (int n = 1; n <= 99; n += 49) {
            int many = n;
            refused("tides(" + n + ") in 9999", atTheLastTide(), atTheLastTide(), TwoKerbs.STATE,
                    x -> x.tides(many));
        }
        TwoKerbs x = atTheLastTide();
        x.undo();
        TwoKerbs twin = atTheLastTide();
        twin.undo();
        refused("tides(99) in 9901", x, twin, TwoKerbs.STATE, y -> y.tides(99));
        TwoKerbs again = atTheLastTide();
        again.undo();
        again.tides(98);
        check.due("tides(98) in 9901", again.now(0), 9999);
    }

    private static void stateOfUndo() {
        refused("undo: none", empty(), empty(), TwoKerbs.STATE, x -> x.undo());
        refused("undo: none behind back()", broughtBack(), broughtBack(), TwoKerbs.STATE, x -> x.undo());
    }

    private static TwoKerbs broughtBack() {
        TwoKerbs x = busy();
        x.back(1);
        return x;
    }

    private static void stateOfBack() {
        state("back: none was kept", x -> x.back(0));
        refused("back(1) of a new object", empty(), empty(), TwoKerbs.STATE, x -> x.back(1));
    }

    private static void fullText() {
        check.due("letters", full().count(7), 150);
        refused("type: full", full(), full(), TwoKerbs.FULL, x -> x.type(';'));
        refused("type: a blank, full", full(), full(), TwoKerbs.FULL, x -> x.type(' '));
    }

    private static void fullFound() {
        check.due("FOUND", full().count(5), 6);
        refused("found: full", full(), full(), TwoKerbs.FULL, x -> x.found(0, 0));
        refused("found: full, what was found before", full(), full(), TwoKerbs.FULL, x -> x.found(2, 1));
    }

    private static void fullSeen() {
        check.due("SEEN", full().count(6), 6);
        refused("saw: full", full(), full(), TwoKerbs.FULL, x -> x.saw(0, 0));
        refused("saw: full, what was seen before", full(), full(), TwoKerbs.FULL, x -> x.saw(1, 0));
    }

    private static TwoKerbs withFault() {
        TwoKerbs x = busy();
        Check.type(x, "m9 8 7;d0 0 4;t0;q");
        return x;
    }

    /** The fault is the last letter, so that all ahead of it was read. */
    private static void faultOfTowns() {
        refused("towns: a fault", withFault(), withFault(), -10 - 25, x -> x.towns());
        TwoKerbs x = withFault();
        x.towns();
        check.due("towns() again", x.towns(), -10 - 25);
        check.due("image 1 is still kept", x.back(1), 0);
        check.due("image 0 is not", x.back(0), TwoKerbs.STATE);
    }

    private static void bad(String told, TwoKerbs x, TwoKerbs twin, ToIntFunction<TwoKerbs> call) {
        refused(told, x, twin, TwoKerbs.BAD, call);
    }

    private static void badAheadOfState() {
        bad("ties: under way, and is = 2", busy(), busy(), x -> x.ties(0, 2));
        bad("ties: under way, and is = -1", busy(), busy(), x -> x.ties(0, -1));
        bad("carries: under way, and no such kerb", busy(), busy(), x -> x.carries(0, 3));
        bad("send: under way, and no such kerb", busy(), busy(), x -> x.send(0, 3, 0));
        bad("send: under way, and what = 2", busy(), busy(), x -> x.send(0, 1, 2));
        bad("ties: it is tied, and is = 2", busy(), busy(), x -> x.ties(2, 2));
        bad("tides: in 9999, and n = 100", atTheLastTide(), atTheLastTide(), x -> x.tides(100));
        bad("tides: in 9999, and n = 0", atTheLastTide(), atTheLastTide(), x -> x.tides(0));
        bad("back: none was kept, and no such image", empty(), empty(), x -> x.back(2));
    }

    private static void badAheadOfFull() {
        bad("type: full, and 256", full(), full(), x -> x.type(256));
        bad("type: full, and -1", full(), full(), x -> x.type(-1));
        bad("found: full, and no such kerb", full(), full(), x -> x.found(3, 0));
        bad("found: full, and tide 100", full(), full(), x -> x.found(0, 100));
        bad("saw: full, and tide 100", full(), full(), x -> x.saw(100, 0));
        bad("saw: full, and v = 20", full(), full(), x -> x.saw(0, 20));
    }

    private static void refusedCallsAreNotToBeUndone() {
        TwoKerbs x = busy();
        x.tides(100);
        x.ties(0, 1);
        x.ties(2, 1);
        x.carries(1, 1);
        x.carries(1, 2);
        x.carries(0, 3);
        check.due("to undo", x.now(4), 2);
        check.due("undo() of tides()", x.undo(), 1);
        check.due("the tide", x.now(0), 0);
        check.due("undo() of ties()", x.undo(), 0);
        check.due("it is not tied", x.thing(2, 3), 0);
    }

    private static TwoKerbs tenTimes() {
        TwoKerbs x = Check.told("k0 4;k1 0;d0 1 4;t0;");
        for (int n = 1; n <= 10; n++) {
            x.tides(n);
        }
        return x;
    }

    private static void oldestIsNotLostByARefusedCall() {
        refused("tides(0) with ten to undo", tenTimes(), tenTimes(), TwoKerbs.BAD, x -> x.tides(0));
        refused("ties(0, 0) with ten to undo", tenTimes(), tenTimes(), TwoKerbs.STATE, x -> x.ties(0, 0));
        refused("carries(0, 0) with ten to undo", tenTimes(), tenTimes(), TwoKerbs.STATE, x -> x.carries(0, 0));
        TwoKerbs x = tenTimes();
        x.tides(0);
        for (int left = 9; left >= 0; left--) {
            check.due("undo() to " + left, x.undo(), left);
        }
        check.due("the tide", x.now(0), 0);
    }
}
