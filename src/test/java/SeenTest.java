/** Promises 21 to 25: found, began, saw, laws, forget. */
final class SeenTest {
    private static final Check check = new Check();

    public static void main(String[] args) {
        founds();
        begins();
        saws();
        laws();
        forgets();
        check.end();
    }

    private static void founds() {
        TwoKerbs x = Check.told("k0 0;k0 0;");
        check.due("found(2, 0)", x.found(2, 0), TwoKerbs.BAD);
        check.due("found(-1, 0)", x.found(-1, 0), TwoKerbs.BAD);
        check.due("found(0, -1)", x.found(0, -1), TwoKerbs.BAD);
        check.due("found(0, 100)", x.found(0, 100), TwoKerbs.BAD);
        for (int n = 1; n <= 6; n++) {
            check.due("found(0, 99) again", x.found(0, 99), n);
        }
        check.due("a seventh", x.found(0, 99), TwoKerbs.FULL);
        check.due("BAD ahead of FULL", x.found(0, 100), TwoKerbs.BAD);
        check.due("count(5)", x.count(5), 6);
        check.due("count(6)", x.count(6), 0);
        check.due("none is there", new TwoKerbs().found(0, 0), TwoKerbs.BAD);
    }

    private static void begins() {
        // Levels 0, 3, 6, 9, 2, ..: 0 leads to 2 (tide 1 to 3), 1 to 2 (tide 2 to 3); 2 stays; 3 stays.
        TwoKerbs x = Check.told("k0 3;k1 6;k0 19;k1 19;d0 2 2;d1 2 1;t0;");
        check.due("nothing was found", x.began(), 0b1111);
        x.found(2, 3);
        check.due("on 2 in tide 3", x.began(), 0b0111);
        x.found(1, 1);
        check.due("on 1 in tide 1", x.began(), 0b0010);
        x.found(1, 2);
        check.due("on 1 in tide 2", x.began(), 0b0010);
        x.found(2, 2);
        check.due("on 1 and on 2 in tide 2", x.began(), 0);
        x.forget();
        x.found(2, 2);
        check.due("0 is under way in tide 2", x.began(), 0b0100);
        x.forget();
        x.found(0, 0);
        x.found(2, 99);
        check.due("on 0 in tide 0, on 2 in tide 99", x.began(), 0b0001);
        x.found(0, 99);
        check.due("not on 0 in tide 99", x.began(), 0);
        x.forget();
        x.found(0, 0);
        x.ties(0, 1);
        x.tides(7);
        check.due("not as it is now", x.began(), 0b0001);
        check.due("no kerbs", new TwoKerbs().began(), 0);
    }

    private static void saws() {
        TwoKerbs x = new TwoKerbs();
        check.due("saw(-1, 0)", x.saw(-1, 0), TwoKerbs.BAD);
        check.due("saw(100, 0)", x.saw(100, 0), TwoKerbs.BAD);
        check.due("saw(0, -1)", x.saw(0, -1), TwoKerbs.BAD);
        check.due("saw(0, 20)", x.saw(0, 20), TwoKerbs.BAD);
        for (int n = 1; n <= 6; n++) {
            check.due("saw(99, 19) again", x.saw(99, 19), n);
        }
        check.due("a seventh", x.saw(99, 19), TwoKerbs.FULL);
        check.due("BAD ahead of FULL", x.saw(99, 20), TwoKerbs.BAD);
        check.due("count(6)", x.count(6), 6);
        check.due("count(5)", x.count(5), 0);
    }

    private static void laws() {
        TwoKerbs x = Check.told("m20 7 3;");
        check.due("nothing was seen", x.laws(0), 400);
        check.due("the first", x.laws(1), 0);
        x.saw(10, 13);
        check.due("10 S + O is 13 by 20", x.laws(0), 20);
        check.due("the first: 0, 13", x.laws(1), 13);
        x.saw(99, 16);
        // O is 13 or, with S odd, 3; 99 S + O is 16.
        check.due("two left", x.laws(0), 1);
        check.due("the one", x.laws(1), 703);
        x.saw(1, 10);
        check.due("it still is", x.laws(1), 703);
        x.saw(1, 11);
        check.due("none", x.laws(0), 0);
        check.due("none is first", x.laws(1), TwoKerbs.NONE);
        check.due("laws(2)", x.laws(2), TwoKerbs.BAD);
        check.due("laws(-1)", x.laws(-1), TwoKerbs.BAD);
        TwoKerbs small = Check.told("m5 0 0;");
        small.saw(0, 5);
        check.due("a level that can't be", small.laws(0), 0);
    }

    private static void forgets() {
        TwoKerbs x = Check.told("k0 0;");
        check.due("nothing", x.forget(), 0);
        x.found(0, 0);
        x.found(0, 1);
        x.saw(0, 0);
        check.due("both", x.forget(), 3);
        check.due("found is gone", x.count(5), 0);
        check.due("seen is gone", x.count(6), 0);
        check.due("laws(0)", x.laws(0), 100);
        check.due("from the first again", x.found(0, 0), 1);
        check.due("forgetting is not undone", x.undo(), TwoKerbs.STATE);
    }
}
