/** The document's part 3: each sentence that names a boundary case, with a test of its own. */
final class AheadEdgesTest {
    private static final Check check = new Check();
    private static final int NONE = TwoKerbs.NONE;
    private static final String TO_AND_FRO = "m2 0 0;k0 0;k0 0;d0 1 1;d1 0 1;t0;";
    private static final String EIGHT_LOW = "k0 0;k0 0;k0 0;k0 0;k0 0;k0 0;k0 0;k0 0;";
    private static final String EIGHT_HIGH = EIGHT_LOW.replace("k0 0;", "k0 19;");
    private static final String CHAIN = "d0 1 4;d1 2 4;d2 3 4;d3 4 4;d4 5 4;d5 6 4;d6 7 4;";

    public static void main(String[] args) {
        whereNowAndIn400Tides();
        whenIsTheTideAtLeast();
        whenOfTheSlowestWay();
        whenOfUnderWay();
        sendOntoItsOwn();
        sendOntoTheLowest();
        sendWithinOneTown();
        sendOfATiedOne();
        meetNow();
        meetOnlyIfBothLie();
        roundOfOneThatLies();
        roundOfTheLongest();
        roundBehindAWay();
        highLooksAtModuloTides();
        highBeyondTheLastTide();
        floodOfNoneAndOfAll();
        check.end();
    }

    private static void whereNowAndIn400Tides() {
        TwoKerbs x = Check.told(TO_AND_FRO);
        check.due("where(0, 0)", x.where(0, 0), 0);
        check.due("where(0, 1)", x.where(0, 1), 1);
        check.due("where(0, 399)", x.where(0, 399), 1);
        check.due("where(0, 400)", x.where(0, 400), 0);
        check.due("where(0, 401)", x.where(0, 401), TwoKerbs.BAD);
        x.tides(99);
        check.due("where(0, 400) from tide 99 on", x.where(0, 400), 1);
    }

    private static void whenIsTheTideAtLeast() {
        TwoKerbs x = Check.told(TO_AND_FRO);
        check.due("where it lies", x.when(0, 0), 0);
        check.due("a tide on", x.when(0, 1), 1);
        x.tides(5);
        check.due("where it lies in tide 5", x.when(0, 1), 5);
        check.due("a tide on, in tide 5", x.when(0, 0), 6);
    }

    /**
     * A KERB has one DRAIN, so the way to another KERB has seven legs at most, and no leg is longer than 23 tides:
     * the bound of 400 tides can be seen in MEET alone (AheadTest has it).
     */
    private static void whenOfTheSlowestWay() {
        TwoKerbs x = Check.told("m20 1 0;" + EIGHT_HIGH + CHAIN + "t0;");
        check.due("seven legs", x.when(0, 7), 143);
        check.due("send()", x.send(0, 7, 1), 0);
        TwoKerbs other = Check.told("m20 1 0;" + EIGHT_HIGH.replaceAll("k0 19;$", "k1 19;") + CHAIN + "t0;t7;");
        check.due("send() to the other town", other.send(0, 7, 0), 6);
        check.due("its tide", other.send(0, 7, 1), 23);
        check.due("there is no way back", other.when(1, 0), NONE);
    }

    private static void whenOfUnderWay() {
        TwoKerbs x = Check.told("m2 0 0;k0 0;k0 19;k0 19;d0 1 4;t0;");
        for (int tide = 1; tide < 4; tide++) {
            x.tides(1);
            check.due("it comes", x.when(0, 1), 4);
            check.due("it does not lie where it began", x.when(0, 0), NONE);
            check.due("nor where it never comes", x.when(0, 2), NONE);
            check.due("where() a tide ahead of it", x.where(0, 3 - tide), NONE);
            check.due("where() then", x.where(0, 4 - tide), 1);
        }
    }

    private static void sendOntoItsOwn() {
        TwoKerbs x = Check.told("m2 0 0;k0 0;k0 19;k1 19;d0 2 3;t0;");
        check.due("its own", x.send(0, 2, 0), 0);
        check.due("the tide", x.send(0, 2, 1), 3);
        check.due("where it lies", x.send(0, 0, 0), 0);
        check.due("now", x.send(0, 0, 1), 0);
        x.tides(5);
        check.due("no way", x.send(0, 0, 0), NONE);
        check.due("no tide", x.send(0, 0, 1), NONE);
        check.due("it lies there", x.send(0, 2, 0), 2);
        check.due("THE TIDE at least", x.send(0, 2, 1), 5);
    }

    private static void sendOntoTheLowest() {
        for (int own = 0; own <= 2; own++) {
            TwoKerbs x = Check.told("m2 0 0;k0 0;k0 0;k0 0;k1 0;d0 3 2;d1 3 2;d2 3 2;t" + own + ";");
            check.due("all alike, from " + own, x.send(0, 3, 0), 0);
            check.due("their tide, from " + own, x.send(0, 3, 1), 2);
        }
        TwoKerbs last = Check.told("m2 0 0;k0 0;k0 0;k0 0;k1 0;d0 3 3;d1 3 2;d2 3 1;t0;");
        check.due("the soonest is not the lowest", last.send(0, 3, 0), 2);
        check.due("the soonest tide", last.send(0, 3, 1), 1);
    }

    /** Kerbs 1 and 3 are of the other town; 3 leads there in a tide. */
    private static void sendWithinOneTown() {
        TwoKerbs x = Check.told("m2 0 0;k0 19;k1 19;k0 0;k1 0;d2 1 4;d3 1 1;t0;t3;");
        check.due("not onto another town's", x.send(0, 1, 0), 2);
        check.due("the tide", x.send(0, 1, 1), 4);
        check.due("of the other town", x.send(1, 1, 0), 1);
        check.due("no way to the first town", x.send(1, 0, 0), NONE);
    }

    private static void sendOfATiedOne() {
        TwoKerbs x = Check.told("m2 0 0;k0 0;k1 19;d0 1 2;t0;");
        x.ties(0, 1);
        check.due("when() of a tied one", x.when(0, 1), NONE);
        check.due("onto its own, not tied then", x.send(0, 1, 0), 0);
        check.due("the tide", x.send(0, 1, 1), 2);
        check.due("it is tied still", x.thing(0, 3), 1);
    }

    private static void meetNow() {
        TwoKerbs x = Check.told("m2 0 0;k0 0;k0 0;d0 1 1;d1 0 1;t0;t0;t1;");
        check.due("in tide 0", x.meet(0, 1), 0);
        check.due("never", x.meet(0, 2), NONE);
        x.tides(7);
        check.due("in tide 7", x.meet(1, 0), 7);
        x.ties(2, 1);
        check.due("one is tied", x.meet(0, 2), 8);
        x.ties(0, 1);
        check.due("both are tied, apart", x.meet(0, 2), NONE);
        x.carries(0, 0);
        check.due("both are tied, on one KERB", x.meet(0, 2), 7);
    }

    private static void meetOnlyIfBothLie() {
        TwoKerbs x = Check.told("m2 0 0;k0 0;k0 19;d0 1 3;t0;t0;t1;");
        x.tides(1);
        check.due("both are under way to one KERB", x.meet(0, 1), 3);
        check.due("one lies where the other leads", x.meet(0, 2), 3);
        check.due("the other way round", x.meet(2, 0), 3);
    }

    private static void roundOfOneThatLies() {
        for (int modulo = 2; modulo <= 20; modulo += 9) {
            TwoKerbs x = Check.told("m" + modulo + " 1 0;k0 0;k0 19;d0 0 3;t1;t0;");
            x.ties(1, 1);
            check.due("MODULO " + modulo + ", too high", x.round(0), modulo);
            check.due("MODULO " + modulo + ", tied", x.round(1), modulo);
        }
        check.due("a tide by a tide", Check.told("m2 0 0;k0 0;t0;").round(0), 2);
    }

    /** 31 tides once round, and 20 for the LEVEL: 620 is the least number that both divide. */
    private static void roundOfTheLongest() {
        TwoKerbs x = Check.told("m20 0 0;" + EIGHT_LOW + CHAIN + "d7 0 3;t0;");
        check.due("31 by 20", x.round(0), 620);
        x.tides(1);
        check.due("under way", x.round(0), 620);
        check.due("32 by 20", Check.told("m20 0 0;" + EIGHT_LOW + CHAIN + "d7 0 4;t0;").round(0), 160);
        check.due("32 by 19", Check.told("m19 0 0;" + EIGHT_LOW + CHAIN + "d7 0 4;t0;").round(0), 608);
    }

    private static void roundBehindAWay() {
        check.due("seven legs, then it lies", Check.told("m20 1 0;" + EIGHT_HIGH + CHAIN + "t0;").round(0), 20);
        check.due("six legs, then to and fro",
                Check.told("m19 0 0;" + EIGHT_LOW + CHAIN + "d7 6 3;t0;").round(0), 19 * 7);
    }

    private static void highLooksAtModuloTides() {
        TwoKerbs x = Check.told("m20 1 0;");
        check.due("NOW", x.high(0), 0);
        check.due("the next", x.high(1), 1);
        check.due("the last that is looked at", x.high(19), 19);
        x.tides(20);
        check.due("the last from tide 20 on", x.high(19), 39);
        check.due("NOW in tide 20", x.high(0), 20);
        TwoKerbs low = Check.told("m19 1 0;");
        check.due("as high as it comes", low.high(18), 18);
        check.due("higher than it comes", low.high(19), NONE);
        check.due("MODULO 2", Check.told("m2 1 0;").high(1), 1);
        check.due("STEP 0, as high", Check.told("m20 0 7;").high(7), 0);
        check.due("STEP 0, higher", Check.told("m20 0 7;").high(8), NONE);
    }

    private static void highBeyondTheLastTide() {
        TwoKerbs x = Check.told("m20 1 1;");
        for (int i = 0; i < 101; i++) {
            x.tides(99);
        }
        check.due("LEVEL of tide 9999", x.now(1), 0);
        check.due("19 tides on", x.high(19), 9999 + 19);
    }

    private static void floodOfNoneAndOfAll() {
        TwoKerbs x = Check.told("m20 1 0;" + EIGHT_LOW.replace("k0 0;", "k0 1;"));
        check.due("none", x.flood(0), 0);
        check.due("all eight", x.flood(1), 255);
        check.due("in tide 9999", x.flood(9999), 255);
        check.due("in tide 9980", x.flood(9980), 0);
        check.due("now(3)", x.now(3), 0);
        check.due("the highest alone", Check.told("m20 0 0;" + EIGHT_HIGH.replaceAll("19;$", "0;")).flood(0), 128);
    }
}
