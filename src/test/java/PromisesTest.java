import java.io.IOException;
import java.nio.charset.StandardCharsets;
import java.nio.file.Files;
import java.nio.file.Path;

/**
 * Promises 1 to 30, one by one, each by its own sentence, on one street. The other tests go deeper; this one is
 * where to look first. It also fails if the document's sentence is no longer the one that was read here.
 */
final class PromisesTest {
    private static final Check check = new Check();
    private static final int BAD = TwoKerbs.BAD;
    private static final int STATE = TwoKerbs.STATE;
    private static final int FULL = TwoKerbs.FULL;
    private static final int NONE = TwoKerbs.NONE;
    /**
     * Levels 1, 4, 0, 3, 6, 2, 5. From 0 to 2 (from level 4 on, two tides), from 1 to 3 (2, one tide), from 2 to 1
     * (5, three tides), from 3 to 0 (0, one tide); 0 and 1 are one town, 2 and 3 the other one.
     */
    private static final String STREET = "m7 3 1;k0 4;k0 2;k1 5;k1 0;d0 2 2;d1 3 1;d2 1 3;d3 0 1;t0;t3;t1;";

    private static String document;

    public static void main(String[] args) throws IOException {
        document = Files.readString(Path.of("../shared/DOC.md"), StandardCharsets.ISO_8859_1);
        textAndTowns();
        whatIsDone();
        levels();
        whereThingsCome();
        whatWasFoundAndSeen();
        kindsAndImages();
        check.end();
    }

    private static void textAndTowns() {
        promise1();
        promise2();
        promise3();
        promise4();
        promise5();
        promise6();
        promise7();
    }

    private static void whatIsDone() {
        promise8();
        promise9();
        promise10();
        promise11();
    }

    private static void levels() {
        promise12();
        promise13();
        promise14();
    }

    private static void whereThingsCome() {
        promise15();
        promise16();
        promise17();
        promise18();
        promise19();
        promise20();
    }

    private static void whatWasFoundAndSeen() {
        promise21();
        promise22();
        promise23();
        promise24();
        promise25();
    }

    private static void kindsAndImages() {
        promise26();
        promise27();
        promise28();
        promise29();
        promise30();
    }

    private static void says(int promise, String call, String sentence) {
        check.holds("the document's promise " + promise + " is: " + sentence,
                document.contains("`" + call + "`: " + sentence + "\n")
                        && document.contains("## Promise " + promise + ": "));
    }

    private static TwoKerbs street() {
        return Check.told(STREET);
    }

    private interface Asked {
        int answer(int what);
    }

    /** The answers of one call for what = 0, 1, .. as many as there are, and BAD on both sides of them. */
    private static void answers(String call, Asked asked, int... want) {
        for (int what = 0; what < want.length; what++) {
            check.due(call + ", what = " + what, asked.answer(what), want[what]);
        }
        check.due(call + ", what = -1", asked.answer(-1), BAD);
        check.due(call + ", what = " + want.length, asked.answer(want.length), BAD);
    }

    private static void promise1() {
        says(1, "TwoKerbs()", "As told; no KERBS, no THINGS.");
        TwoKerbs x = new TwoKerbs();
        answers("1: count", x::count, 0, 0, 10, 3, 0, 0, 0, 0);
        answers("1: now", x::now, 0, 0, 0, 0, 0);
        check.due("1: trace()", x.trace(), 0);
        check.due("1: no image", x.back(0), STATE);
        check.due("1: no image", x.back(1), STATE);
        check.due("1: two of them do not touch one another", new TwoKerbs().type('k') + x.count(7), 1);
    }

    private static void promise2() {
        says(2, "int type(int letter)", "A letter (0 .. 255) comes to THE TEXT: how many it has. BAD; FULL.");
        TwoKerbs x = new TwoKerbs();
        check.due("2: -1", x.type(-1), BAD);
        check.due("2: 256", x.type(256), BAD);
        for (int letters = 1; letters <= 150; letters++) {
            check.due("2: letter " + letters, x.type(letters % 2 == 0 ? 0 : 255), letters);
        }
        check.due("2: one too many", x.type(0), FULL);
        check.due("2: how many it has", x.count(7), 150);
    }

    private static void promise3() {
        says(3, "int clear()", "THE TEXT is empty: how many letters it had.");
        TwoKerbs x = street();
        Check.type(x, "k0 0");
        check.due("3: letters it had", x.clear(), 4);
        check.due("3: it is empty", x.clear(), 0);
        check.due("3: type() begins anew", x.type('k'), 1);
        check.due("3: what was told stays", x.count(0), 4);
    }

    private static void promise4() {
        says(4, "int towns()", "THE TEXT tells all anew, and is empty then: how many ITEMS. -10 less FAULT: nothing "
                + "changes.");
        TwoKerbs x = street();
        x.tides(3);
        x.found(0, 0);
        x.saw(0, 0);
        x.keep(0);
        Check.type(x, "k1 7;d0 0 3;t0 x");
        check.due("4: -10 less FAULT", x.towns(), -10 - 15);
        answers("4: with a FAULT count", x::count, 4, 3, 7, 3, 1, 1, 1, 16);
        check.due("4: with a FAULT now", x.now(0), 3);
        x.clear();
        Check.type(x, "k1 7;d0 0 3;t0;");
        check.due("4: ITEMS", x.towns(), 3);
        answers("4: count", x::count, 1, 1, 10, 3, 0, 0, 0, 0);
        answers("4: now", x::now, 0, 0, 0, 0, 0);
        answers("4: kerb", what -> x.kerb(0, what), 1, 7, 0, 3, 1);
        check.due("4: IMAGES are gone", x.back(0), STATE);
        check.due("4: an empty text", x.towns(), 0);
        check.due("4: tells no KERBS", x.count(0), 0);
    }

    private static void promise5() {
        says(5, "int kerb(int k, int what)", "Of a KERB: 0 TOWN, 1 HEIGHT, 2 where its DRAIN leads, 3 DELAY, 4 THINGS "
                + "that lie on it (bits). BAD.");
        TwoKerbs x = street();
        int[][] want = {{0, 4, 2, 2, 0b001}, {0, 2, 3, 1, 0b100}, {1, 5, 1, 3, 0}, {1, 0, 0, 1, 0b010}};
        for (int k = 0; k < want.length; k++) {
            int of = k;
            answers("5: kerb " + k, what -> x.kerb(of, what), want[k]);
        }
        check.due("5: no such KERB", x.kerb(4, 0), BAD);
        check.due("5: no such KERB", x.kerb(-1, 0), BAD);
        x.tides(3);
        check.due("5: two lie on one", x.kerb(2, 4), 0b011);
        check.due("5: one lies on another", x.kerb(0, 4), 0b100);
    }

    private static void promise6() {
        says(6, "int thing(int t, int what)", "Of a THING: 0 where it lies (NONE: UNDER WAY), 1 to which KERB it is "
                + "UNDER WAY (where it lies, if it does), 2 tides to go (0: it lies), 3 whether TIED (1, 0). BAD.");
        TwoKerbs x = street();
        x.ties(2, 1);
        answers("6: it lies", what -> x.thing(1, what), 3, 3, 0, 0);
        answers("6: it is TIED", what -> x.thing(2, what), 1, 1, 0, 1);
        x.tides(5);
        answers("6: it is UNDER WAY", what -> x.thing(0, what), NONE, 1, 2, 0);
        check.due("6: no such THING", x.thing(3, 0), BAD);
        check.due("6: no such THING", x.thing(-1, 0), BAD);
    }

    private static void promise7() {
        says(7, "int now(int what)", "0 THE TIDE, 1 LEVEL of it, 2 DRIFTS, 3 FLOOD in it (bits), 4 how many may be "
                + "UNDONE. BAD.");
        TwoKerbs x = street();
        answers("7: at first", x::now, 0, 1, 0, 0b1000, 0);
        x.tides(1);
        answers("7: a tide on", x::now, 1, 4, 1, 0b1011, 1);
        x.tides(3);
        answers("7: four tides on", x::now, 4, 6, 5, 0b1111, 2);
    }

    private static void promise8() {
        says(8, "int tides(int n)", "n (1 .. 99) tides go by: how many DRIFTED in them. BAD; STATE: THE TIDE would be "
                + "above 9999.");
        TwoKerbs x = street();
        check.due("8: n = 0", x.tides(0), BAD);
        check.due("8: n = 100", x.tides(100), BAD);
        check.due("8: one DRIFTED", x.tides(1), 1);
        check.due("8: three and one", x.tides(2), 4);
        check.due("8: none", x.tides(1), 0);
        check.due("8: all three", x.tides(1), 3);
        for (int i = 0; i < 100; i++) {
            x.tides(99);
        }
        check.due("8: tide 9905", x.now(0), 9905);
        check.due("8: to 10000", x.tides(95), STATE);
        x.tides(94);
        check.due("8: to 9999", x.now(0), 9999);
        check.due("8: beyond", x.tides(1), STATE);
    }

    private static void promise9() {
        says(9, "int ties(int t, int is)", "TIED (1), not (0): how many are TIED. BAD; STATE: it is so, it is UNDER "
                + "WAY.");
        TwoKerbs x = street();
        check.due("9: it is not TIED", x.ties(0, 0), STATE);
        check.due("9: the first", x.ties(0, 1), 1);
        check.due("9: it is so", x.ties(0, 1), STATE);
        check.due("9: the second", x.ties(2, 1), 2);
        check.due("9: no such THING", x.ties(3, 1), BAD);
        check.due("9: no such THING", x.ties(-1, 1), BAD);
        check.due("9: is = 2", x.ties(0, 2), BAD);
        check.due("9: is = -1", x.ties(0, -1), BAD);
        check.due("9: only what is not TIED drifts", x.tides(2), 2);
        check.due("9: UNDER WAY", x.ties(1, 1), STATE);
        check.due("9: UNDER WAY, not", x.ties(1, 0), STATE);
        check.due("9: one is TIED still", x.ties(2, 0), 1);
    }

    private static void promise10() {
        says(10, "int carries(int t, int k)", "CARRIED: where it lay. BAD; STATE: it is UNDER WAY, of another TOWN, it "
                + "lies there.");
        TwoKerbs x = street();
        check.due("10: where it lay", x.carries(0, 1), 0);
        check.due("10: where it lies", x.thing(0, 0), 1);
        check.due("10: it lies there", x.carries(0, 1), STATE);
        check.due("10: of another TOWN", x.carries(0, 2), STATE);
        check.due("10: no such KERB", x.carries(0, 4), BAD);
        check.due("10: no such KERB", x.carries(0, -1), BAD);
        check.due("10: no such THING", x.carries(3, 0), BAD);
        check.due("10: no such THING", x.carries(-1, 0), BAD);
        x.tides(2);
        check.due("10: it is UNDER WAY", x.thing(1, 0), NONE);
        check.due("10: UNDER WAY", x.carries(1, 3), STATE);
    }

    private static void promise11() {
        says(11, "int undo()", "UNDONE: how many more may be. STATE: none.");
        TwoKerbs x = street();
        check.due("11: none", x.undo(), STATE);
        x.ties(2, 1);
        x.carries(0, 1);
        x.tides(2);
        check.due("11: tides()", x.undo(), 2);
        check.due("11: THE TIDE", x.now(0), 0);
        check.due("11: DRIFTS", x.now(2), 0);
        check.due("11: what drifted", x.thing(1, 0), 3);
        check.due("11: carries()", x.undo(), 1);
        check.due("11: what was CARRIED", x.thing(0, 0), 0);
        check.due("11: ties()", x.undo(), 0);
        check.due("11: what was TIED", x.thing(2, 3), 0);
        for (int n = 1; n <= 11; n++) {
            x.tides(1);
        }
        for (int left = 9; left >= 0; left--) {
            check.due("11: of eleven", x.undo(), left);
        }
        check.due("11: the eleventh is lost", x.undo(), STATE);
        check.due("11: a tide is left", x.now(0), 1);
    }

    private static void promise12() {
        says(12, "int level(int tide)", "LEVEL of a tide (0 .. 9999). BAD.");
        TwoKerbs x = street();
        int[] want = {1, 4, 0, 3, 6, 2, 5, 1};
        for (int tide = 0; tide < want.length; tide++) {
            check.due("12: level(" + tide + ")", x.level(tide), want[tide]);
        }
        check.due("12: level(9999)", x.level(9999), 3);
        check.due("12: level(10000)", x.level(10000), BAD);
        check.due("12: level(-1)", x.level(-1), BAD);
    }

    private static void promise13() {
        says(13, "int high(int h)", "HIGH; NONE. BAD.");
        TwoKerbs x = street();
        int[] want = {0, 0, 1, 1, 1, 4, 4, NONE};
        for (int h = 0; h < want.length; h++) {
            check.due("13: high(" + h + ")", x.high(h), want[h]);
        }
        check.due("13: high(19)", x.high(19), NONE);
        check.due("13: high(20)", x.high(20), BAD);
        check.due("13: high(-1)", x.high(-1), BAD);
        x.tides(5);
        check.due("13: the last that is looked at", x.high(6), 11);
    }

    private static void promise14() {
        says(14, "int flood(int tide)", "FLOOD in a tide (0 .. 9999), as bits. BAD.");
        TwoKerbs x = street();
        int[] want = {0b1000, 0b1011, 0b1000, 0b1010, 0b1111, 0b1010, 0b1111, 0b1000};
        for (int tide = 0; tide < want.length; tide++) {
            check.due("14: flood(" + tide + ")", x.flood(tide), want[tide]);
        }
        check.due("14: flood(9999)", x.flood(9999), 0b1010);
        check.due("14: flood(10000)", x.flood(10000), BAD);
        check.due("14: flood(-1)", x.flood(-1), BAD);
    }

    private static void promise15() {
        says(15, "int where(int t, int n)", "WHERE: the KERB on which it lies; NONE (UNDER WAY). BAD.");
        TwoKerbs x = street();
        int[] want = {0, 0, NONE, 2, 2, NONE, NONE, 1, 1, 3};
        for (int n = 0; n < want.length; n++) {
            check.due("15: where(0, " + n + ")", x.where(0, n), want[n]);
        }
        check.due("15: where(0, 401)", x.where(0, 401), BAD);
        check.due("15: where(0, -1)", x.where(0, -1), BAD);
        check.due("15: no such THING", x.where(3, 0), BAD);
        check.due("15: no such THING", x.where(-1, 0), BAD);
        x.tides(2);
        check.due("15: from NOW on", x.where(0, 1), 2);
        check.due("15: UNDER WAY NOW", x.where(0, 0), NONE);
        x.undo();
        x.ties(0, 1);
        check.due("15: TIED, in 400 tides", x.where(0, 400), 0);
    }

    private static void promise16() {
        says(16, "int when(int t, int k)", "WHEN; NONE. BAD.");
        TwoKerbs x = street();
        int[] want = {0, 7, 3, 9};
        for (int k = 0; k < want.length; k++) {
            check.due("16: when(0, " + k + ")", x.when(0, k), want[k]);
        }
        check.due("16: no such THING", x.when(3, 0), BAD);
        check.due("16: no such THING", x.when(-1, 0), BAD);
        check.due("16: no such KERB", x.when(0, 4), BAD);
        check.due("16: no such KERB", x.when(0, -1), BAD);
        x.ties(0, 1);
        check.due("16: TIED", x.when(0, 1), NONE);
        x.tides(2);
        check.due("16: THE TIDE at least", x.when(0, 0), 2);
    }

    private static void promise17() {
        says(17, "int send(int t, int k, int what)", "SEND: which KERB (what = 0), the tide (1); NONE. BAD; STATE: it "
                + "is UNDER WAY.");
        TwoKerbs x = street();
        answers("17: onto another one", what -> x.send(0, 3, what), 1, 2);
        answers("17: its own", what -> x.send(0, 2, what), 0, 3);
        answers("17: of the other TOWN", what -> x.send(1, 0, what), 3, 1);
        check.due("17: no such THING", x.send(3, 0, 0), BAD);
        check.due("17: no such THING", x.send(-1, 0, 0), BAD);
        check.due("17: no such KERB", x.send(0, 4, 0), BAD);
        check.due("17: no such KERB", x.send(0, -1, 0), BAD);
        x.ties(0, 1);
        answers("17: not TIED then", what -> x.send(0, 2, what), 0, 3);
        x.tides(2);
        check.due("17: UNDER WAY", x.send(1, 0, 0), STATE);
        check.due("17: UNDER WAY, the tide", x.send(1, 0, 1), STATE);
        TwoKerbs apart = Check.told("k0 0;k0 0;k1 0;t1;");
        answers("17: NONE", what -> apart.send(0, 2, what), NONE, NONE);
        TwoKerbs alike = Check.told("m2 0 0;k0 0;k0 0;k1 0;d0 2 2;d1 2 2;t1;");
        answers("17: of several the lowest", what -> alike.send(0, 2, what), 0, 2);
    }

    private static void promise18() {
        says(18, "int meet(int t, int u)", "MEET; NONE. BAD (alike ones, too).");
        TwoKerbs x = street();
        check.due("18: on 0 in tide 1", x.meet(0, 1), 1);
        check.due("18: the other way", x.meet(1, 0), 1);
        check.due("18: NONE", x.meet(1, 2), NONE);
        check.due("18: alike ones", x.meet(1, 1), BAD);
        check.due("18: no such THING", x.meet(0, 3), BAD);
        check.due("18: no such THING", x.meet(3, 0), BAD);
        check.due("18: no such THING", x.meet(0, -1), BAD);
        check.due("18: no such THING", x.meet(-1, 0), BAD);
        x.tides(2);
        check.due("18: both UNDER WAY do not lie", x.meet(0, 1), 3);
    }

    private static void promise19() {
        says(19, "int round(int t)", "ROUND. BAD.");
        TwoKerbs x = street();
        for (int t = 0; t < 3; t++) {
            check.due("19: round(" + t + ")", x.round(t), 21);
        }
        x.ties(0, 1);
        check.due("19: TIED", x.round(0), 7);
        check.due("19: no such THING", x.round(3), BAD);
        check.due("19: no such THING", x.round(-1), BAD);
        check.due("19: in some tide, not in NOW",
                Check.told("m2 0 0;k0 0;k0 0;k0 0;d0 1 3;d1 2 2;d2 1 3;t0;").round(0), 10);
    }

    private static void promise20() {
        says(20, "int odds(int t, int k, int n, int x, int what)", "ODDS: upper (what = 0), lower number (1), in least "
                + "terms. BAD.");
        TwoKerbs x = street();
        answers("20: tide 0 is not weak", what -> x.odds(1, 0, 1, 3, what), 7, 10);
        answers("20: tide 0 is weak", what -> x.odds(1, 3, 1, 4, what), 2, 5);
        answers("20: not weak in tide 1", what -> x.odds(0, 2, 4, 5, what), 1, 2);
        answers("20: surely", what -> x.odds(2, 1, 1, 6, what), 1, 1);
        answers("20: never", what -> x.odds(2, 0, 1, 6, what), 0, 1);
        answers("20: no tides", what -> x.odds(0, 0, 0, 10, what), 1, 1);
        check.due("20: no such THING", x.odds(3, 0, 0, 0, 0), BAD);
        check.due("20: no such THING", x.odds(-1, 0, 0, 0, 0), BAD);
        check.due("20: no such KERB", x.odds(0, 4, 0, 0, 0), BAD);
        check.due("20: no such KERB", x.odds(0, -1, 0, 0, 0), BAD);
        check.due("20: n = 5", x.odds(0, 0, 5, 0, 0), BAD);
        check.due("20: n = -1", x.odds(0, 0, -1, 0, 0), BAD);
        check.due("20: x = 11", x.odds(0, 0, 0, 11, 0), BAD);
        check.due("20: x = -1", x.odds(0, 0, 0, -1, 0), BAD);
    }

    private static void promise21() {
        says(21, "int found(int k, int tide)", "FOUND: how much there is. BAD; FULL.");
        TwoKerbs x = street();
        check.due("21: no such KERB", x.found(4, 0), BAD);
        check.due("21: no such KERB", x.found(-1, 0), BAD);
        check.due("21: tide 100", x.found(0, 100), BAD);
        check.due("21: tide -1", x.found(0, -1), BAD);
        for (int many = 1; many <= 6; many++) {
            check.due("21: how much there is", x.found(0, 99), many);
        }
        check.due("21: a seventh", x.found(0, 99), FULL);
    }

    private static void promise22() {
        says(22, "int began()", "BEGAN, as bits.");
        TwoKerbs x = street();
        check.due("22: nothing was FOUND", x.began(), 0b1111);
        x.found(0, 1);
        check.due("22: from 0 or from 3", x.began(), 0b1001);
        x.found(2, 3);
        check.due("22: both still", x.began(), 0b1001);
        x.found(3, 0);
        check.due("22: from 3", x.began(), 0b1000);
        x.found(1, 99);
        x.found(2, 99);
        check.due("22: not on two KERBS at once", x.began(), 0);
        check.due("22: no KERBS", new TwoKerbs().began(), 0);
    }

    private static void promise23() {
        says(23, "int saw(int tide, int v)", "SEEN: how much there is. BAD; FULL.");
        TwoKerbs x = street();
        check.due("23: tide 100", x.saw(100, 0), BAD);
        check.due("23: tide -1", x.saw(-1, 0), BAD);
        check.due("23: v = 20", x.saw(0, 20), BAD);
        check.due("23: v = -1", x.saw(0, -1), BAD);
        for (int many = 1; many <= 6; many++) {
            check.due("23: how much there is", x.saw(99, 19), many);
        }
        check.due("23: a seventh", x.saw(99, 19), FULL);
    }

    private static void promise24() {
        says(24, "int laws(int what)", "LAWS: how many (what = 0), the first (1; NONE). BAD.");
        TwoKerbs x = street();
        answers("24: nothing was SEEN", x::laws, 49, 0);
        x.saw(1, 4);
        answers("24: STEP and OFFSET are 4 together", x::laws, 7, 4);
        x.saw(0, 1);
        answers("24: as told", x::laws, 1, 301);
        x.saw(99, 4);
        answers("24: tide 99 is as tide 1", x::laws, 1, 301);
        x.saw(2, 1);
        answers("24: NONE", x::laws, 0, NONE);
    }

    private static void promise25() {
        says(25, "int forget()", "Nothing was FOUND, SEEN: how much both were.");
        TwoKerbs x = street();
        x.found(0, 1);
        x.found(0, 0);
        x.saw(0, 1);
        check.due("25: how much both were", x.forget(), 3);
        check.due("25: nothing was FOUND", x.began(), 0b1111);
        check.due("25: nothing was SEEN", x.laws(0), 49);
        check.due("25: count", x.count(5) + x.count(6), 0);
        check.due("25: nothing", x.forget(), 0);
    }

    private static void promise26() {
        says(26, "int rate(int kind, int k)", "RATE. NO: BAD.");
        TwoKerbs x = street();
        x.tides(3);
        // On kerb 2, of HEIGHT 5 and DELAY 3, lie two THINGS; LEVEL is 3.
        int[] want = {5, 7, 2, 14, 4, 8};
        for (int kind = 0; kind < want.length; kind++) {
            check.due("26: rate(" + kind + ", 2)", x.rate(kind, 2), want[kind]);
        }
        check.due("26: STEPS below 0", x.rate(2, 3), -3);
        check.due("26: no such KIND", x.rate(6, 0), TwoKerbs.NO);
        check.due("26: no such KIND", x.rate(-1, 0), TwoKerbs.NO);
        check.due("26: no such KERB", x.rate(0, 4), TwoKerbs.NO);
        check.due("26: no such KERB", x.rate(0, -1), TwoKerbs.NO);
    }

    private static void promise27() {
        says(27, "int keep(int image)", "An IMAGE is kept: THE TIDE. BAD.");
        TwoKerbs x = street();
        check.due("27: image 0", x.keep(0), 0);
        x.tides(5);
        check.due("27: image 1", x.keep(1), 5);
        check.due("27: image 2", x.keep(2), BAD);
        check.due("27: image -1", x.keep(-1), BAD);
        x.tides(2);
        check.due("27: image 0 anew", x.keep(0), 7);
        check.due("27: undo() is as it was", x.now(4), 2);
        check.due("27: it has this one", x.back(0), 7);
    }

    private static void promise28() {
        says(28, "int back(int image)", "All of that becomes as an IMAGE has it: THE TIDE. BAD; STATE: none was kept.");
        TwoKerbs x = street();
        x.ties(2, 1);
        x.tides(2);
        x.keep(1);
        x.ties(2, 0);
        x.tides(5);
        x.found(0, 0);
        x.saw(0, 0);
        check.due("28: none was kept", x.back(0), STATE);
        check.due("28: image 2", x.back(2), BAD);
        check.due("28: image -1", x.back(-1), BAD);
        check.due("28: THE TIDE", x.back(1), 2);
        answers("28: now", x::now, 2, 0, 3, 0b1000, 0);
        answers("28: where it is", what -> x.thing(0, what), NONE, 2, 1, 0);
        answers("28: TIED", what -> x.thing(2, what), 1, 1, 0, 1);
        check.due("28: nothing can be UNDONE", x.undo(), STATE);
        check.due("28: nothing else is kept", x.count(5) + x.count(6), 2);
        x.tides(1);
        check.due("28: again", x.back(1), 2);
    }

    private static void promise29() {
        says(29, "int count(int what)", "0 KERBS, 1 THINGS, 2 MODULO, 3 STEP, 4 OFFSET, 5 FOUND, 6 SEEN, 7 letters of "
                + "THE TEXT. BAD.");
        TwoKerbs x = street();
        x.found(0, 0);
        x.found(0, 0);
        x.saw(0, 0);
        Check.type(x, "k0 0;");
        answers("29: count", x::count, 4, 3, 7, 3, 1, 2, 1, 5);
    }

    private static void promise30() {
        says(30, "long trace()", "THE TRACE.");
        TwoKerbs x = street();
        long[] want = {1, 11, 101, 1011, 10101, 100001};
        long trace = 0;
        for (int kind = 0; kind < want.length; kind++) {
            x.rate(kind, 1);
            trace += want[kind];
            check.due("30: behind rate(" + kind + ", 1)", x.trace(), trace);
        }
        x.rate(6, 0);
        x.rate(0, 4);
        check.due("30: what is BAD asks nobody", x.trace(), trace);
        x.tides(1);
        x.undo();
        check.due("30: it is not UNDONE", x.trace(), trace);
    }
}
