/** Promises 12 to 14: level, high, flood. */
final class LevelsTest {
    private static final Check check = new Check();

    public static void main(String[] args) {
        levels();
        highs();
        floods();
        check.end();
    }

    private static void levels() {
        TwoKerbs x = Check.told("m20 19 18;");
        int level = 18;
        for (int tide = 0; tide <= 9999; tide++) {
            if (tide % 400 == 0) {
                // An object is used for 512 calls at most.
                x = Check.told("m20 19 18;");
            }
            check.due("level(" + tide + ")", x.level(tide), level);
            level = level + 19 >= 20 ? level - 1 : level + 19;
        }
        check.due("level(-1)", x.level(-1), TwoKerbs.BAD);
        check.due("level(10000)", x.level(10000), TwoKerbs.BAD);
    }

    private static void highs() {
        // Levels: 1, 5, 2, 6, 3, 0, 4; then again.
        TwoKerbs x = Check.told("m7 4 1;");
        int[] want = {0, 0, 1, 1, 1, 1, 3, TwoKerbs.NONE};
        for (int h = 0; h < want.length; h++) {
            check.due("high(" + h + ")", x.high(h), want[h]);
        }
        check.due("high(19)", x.high(19), TwoKerbs.NONE);
        check.due("high(20)", x.high(20), TwoKerbs.BAD);
        check.due("high(-1)", x.high(-1), TwoKerbs.BAD);
        x.tides(4);
        check.due("high(6) from tide 4 on", x.high(6), 10);
        check.due("high(3) from tide 4 on", x.high(3), 4);
        check.due("high(4) from tide 4 on", x.high(4), 6);
        check.due("the last one looked at", Check.told("m20 1 0;").high(19), 19);
        check.due("always alike", Check.told("m20 0 7;").high(8), TwoKerbs.NONE);
    }

    private static void floods() {
        TwoKerbs x = Check.told("m10 4 1;k0 0;k1 9;k0 5;k1 6;k0 1;");
        check.due("flood(0): 1", x.flood(0), 0b10001);
        check.due("flood(1): 5", x.flood(1), 0b10101);
        check.due("flood(2): 9", x.flood(2), 0b11111);
        check.due("flood(9999): 7", x.flood(9999), 0b11101);
        check.due("flood(-1)", x.flood(-1), TwoKerbs.BAD);
        check.due("flood(10000)", x.flood(10000), TwoKerbs.BAD);
        check.due("flood of none", new TwoKerbs().flood(3), 0);
    }
}
