/** FOUND, BEGAN, SEEN, LAWS: each sentence that names a boundary case, with a test of its own. */
final class SeenEdgesTest {
    private static final Check check = new Check();
    private static final String TO_AND_FRO = "m2 0 0;k0 0;k0 0;d0 1 1;d1 0 1;";

    public static void main(String[] args) {
        sixAreFound();
        sixAreSeen();
        foundInTheFirstAndInTheLastTide();
        sixthFoundCounts();
        foundUnderWay();
        beganOnAllOrNone();
        beganWithoutTies();
        seenInTheFirstAndInTheLastTide();
        sixthSeenCounts();
        lawsOfNothingSeen();
        firstAndLastLaw();
        firstOfSeveralLaws();
        lawsByModuloAsTold();
        seenThatCanNotBe();
        forgotten();
        check.end();
    }

    private static void sixAreFound() {
        TwoKerbs x = Check.told(TO_AND_FRO);
        for (int n = 1; n <= 6; n++) {
            check.due("found " + n, x.found(0, 2 * n), n);
        }
        check.due("found 7", x.found(0, 14), TwoKerbs.FULL);
        check.due("how much there is", x.count(5), 6);
        check.due("nothing was seen", x.count(6), 0);
        check.due("the first seen has room", x.saw(0, 0), 1);
    }

    private static void sixAreSeen() {
        TwoKerbs x = Check.told(TO_AND_FRO);
        for (int n = 1; n <= 6; n++) {
            check.due("saw " + n, x.saw(n, 0), n);
        }
        check.due("saw 7", x.saw(7, 0), TwoKerbs.FULL);
        check.due("how much there is", x.count(6), 6);
        check.due("nothing was found", x.count(5), 0);
        check.due("the first found has room", x.found(0, 0), 1);
    }

    private static int beganIf(String text, int... founds) {
        TwoKerbs x = Check.told(text);
        for (int i = 0; i + 1 < founds.length; i += 2) {
            x.found(founds[i], founds[i + 1]);
        }
        return x.began();
    }

    private static void foundInTheFirstAndInTheLastTide() {
        check.due("on 0 in tide 0", beganIf(TO_AND_FRO, 0, 0), 0b01);
        check.due("on 1 in tide 0", beganIf(TO_AND_FRO, 1, 0), 0b10);
        check.due("on 0 in tide 98", beganIf(TO_AND_FRO, 0, 98), 0b01);
        check.due("on 0 in tide 99", beganIf(TO_AND_FRO, 0, 99), 0b10);
        check.due("on 1 in tide 99", beganIf(TO_AND_FRO, 1, 99), 0b01);
        check.due("on 0 in tides 0 and 99", beganIf(TO_AND_FRO, 0, 0, 0, 99), 0);
    }

    private static void sixthFoundCounts() {
        check.due("five", beganIf(TO_AND_FRO, 0, 2, 0, 2, 0, 4, 1, 5, 1, 7), 0b01);
        check.due("six that fit", beganIf(TO_AND_FRO, 0, 2, 0, 2, 0, 4, 1, 5, 1, 7, 0, 6), 0b01);
        check.due("a sixth that does not", beganIf(TO_AND_FRO, 0, 2, 0, 2, 0, 4, 1, 5, 1, 7, 1, 6), 0);
        check.due("a first that does not", beganIf(TO_AND_FRO, 1, 2, 0, 2, 0, 4, 1, 5, 1, 7, 0, 6), 0);
    }

    /** From 0 it is under way in tides 1, 2, 3. */
    private static void foundUnderWay() {
        String text = "m2 0 0;k0 0;k0 19;d0 1 4;";
        check.due("on 1 in tide 3", beganIf(text, 1, 3), 0b10);
        check.due("on 1 in tide 4", beganIf(text, 1, 4), 0b11);
        check.due("on 0 in tide 1", beganIf(text, 0, 1), 0);
    }

    private static void beganOnAllOrNone() {
        check.due("all eight", beganIf("k0 0;k0 0;k0 0;k0 0;k1 0;k1 0;k1 0;k1 0;"), 255);
        check.due("no kerbs", beganIf(""), 0);
        check.due("on the eighth", beganIf("k0 0;k0 0;k0 0;k0 0;k1 0;k1 0;k1 0;k1 0;", 7, 9), 128);
    }

    /** "A THING that nobody TIED, CARRIED": as things are now does not count, nor does the tide. */
    private static void beganWithoutTies() {
        TwoKerbs x = Check.told(TO_AND_FRO + "t0;");
        x.found(1, 1);
        x.ties(0, 1);
        x.tides(3);
        x.carries(0, 1);
        check.due("began()", x.began(), 0b01);
    }

    private static int lawsIf(String text, int what, int... saws) {
        TwoKerbs x = Check.told(text);
        for (int i = 0; i + 1 < saws.length; i += 2) {
            x.saw(saws[i], saws[i + 1]);
        }
        return x.laws(what);
    }

    private static void seenInTheFirstAndInTheLastTide() {
        check.due("in tide 0", lawsIf("m20 0 0;", 0, 0, 19), 20);
        check.due("in tide 0, the first", lawsIf("m20 0 0;", 1, 0, 19), 19);
        check.due("in tide 99", lawsIf("m20 0 0;", 0, 0, 0, 99, 1), 1);
        check.due("in tide 99, the first", lawsIf("m20 0 0;", 1, 0, 0, 99, 1), 1900);
    }

    private static void sixthSeenCounts() {
        check.due("five", lawsIf("m10 0 0;", 0, 0, 0, 1, 3, 2, 6, 3, 9, 4, 2), 1);
        check.due("six that fit", lawsIf("m10 0 0;", 1, 0, 0, 1, 3, 2, 6, 3, 9, 4, 2, 5, 5), 300);
        check.due("a sixth that does not", lawsIf("m10 0 0;", 0, 0, 0, 1, 3, 2, 6, 3, 9, 4, 2, 5, 6), 0);
        check.due("a first that does not", lawsIf("m10 0 0;", 0, 0, 1, 1, 3, 2, 6, 3, 9, 4, 2, 5, 5), 0);
    }

    private static void lawsOfNothingSeen() {
        check.due("MODULO 2", lawsIf("m2 1 1;", 0), 4);
        check.due("MODULO 20", lawsIf("m20 19 19;", 0), 400);
        check.due("MODULO 10, not told", lawsIf("", 0), 100);
        check.due("the first", lawsIf("m20 19 19;", 1), 0);
    }

    private static void firstAndLastLaw() {
        check.due("0, 0", lawsIf("m20 5 5;", 1, 0, 0, 1, 0), 0);
        check.due("0, 0 alone", lawsIf("m20 5 5;", 0, 0, 0, 1, 0), 1);
        check.due("19, 19", lawsIf("m20 5 5;", 1, 0, 19, 1, 18), 1919);
        check.due("19, 19 alone", lawsIf("m20 5 5;", 0, 0, 19, 1, 18), 1);
        check.due("1, 1 of MODULO 2", lawsIf("m2 0 0;", 1, 0, 1, 1, 0), 101);
    }

    /** By STEP first, then by OFFSET. */
    private static void firstOfSeveralLaws() {
        check.due("of 102 and 607", lawsIf("m10 0 0;", 1, 1, 3, 3, 5), 102);
        check.due("two", lawsIf("m10 0 0;", 0, 1, 3, 3, 5), 2);
        check.due("of 9, 108, 207 ..", lawsIf("m10 0 0;", 1, 1, 9), 9);
        check.due("ten", lawsIf("m10 0 0;", 0, 1, 9), 10);
    }

    private static void lawsByModuloAsTold() {
        check.due("MODULO 3", lawsIf("m3 0 0;", 0, 0, 2), 3);
        check.due("MODULO 4", lawsIf("m4 0 0;", 0, 0, 2), 4);
        check.due("STEP, OFFSET as told do not count", lawsIf("m3 1 1;", 1, 0, 0, 1, 2), 200);
    }

    private static void seenThatCanNotBe() {
        check.due("MODULO less 1", lawsIf("m5 0 0;", 0, 0, 4), 5);
        check.due("MODULO", lawsIf("m5 0 0;", 0, 0, 5), 0);
        check.due("the first of none", lawsIf("m5 0 0;", 1, 0, 5), TwoKerbs.NONE);
        check.due("19 by 19", lawsIf("m19 0 0;", 0, 0, 19), 0);
    }

    private static void forgotten() {
        TwoKerbs x = Check.told(TO_AND_FRO);
        check.due("nothing", x.forget(), 0);
        for (int i = 0; i < 6; i++) {
            x.found(0, 0);
            x.saw(0, 1);
        }
        check.due("both, full", x.forget(), 12);
        check.due("nothing again", x.forget(), 0);
        check.due("began()", x.began(), 0b11);
        check.due("laws(0)", x.laws(0), 4);
        check.due("room to find", x.found(1, 0), 1);
        check.due("only found", x.forget(), 1);
        check.due("room to see", x.saw(1, 0), 1);
        check.due("only seen", x.forget(), 1);
    }
}
