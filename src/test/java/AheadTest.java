/** Promises 15 to 20: where, when, send, meet, round, odds. */
final class AheadTest {
    private static final Check check = new Check();
    /** Levels 0, 3, 6, 9, 2, 5, 8, 1, 4, 7; thing 0 drifts from 0 in tide 1, comes to 1 in tide 3. */
    private static final String STREET = "k0 3;k1 9;k0 2;d0 1 2;d1 2 4;t0;t2;";

    public static void main(String[] args) {
        wheres();
        whens();
        whensAtTheEnd();
        sends();
        sendsOfTied();
        meets();
        meetsAtTheEnd();
        rounds();
        odds();
        oddsOfWeakTides();
        nothingIsChanged();
        check.end();
    }

    private static void wheres() {
        TwoKerbs x = Check.told(STREET);
        int[] want = {0, 0, -9, 1, -9, -9, -9, 2, 2};
        for (int n = 0; n < want.length; n++) {
            check.due("where(0, " + n + ")", x.where(0, n), want[n]);
        }
        check.due("where(0, 400)", x.where(0, 400), 2);
        check.due("where(0, 401)", x.where(0, 401), TwoKerbs.BAD);
        check.due("where(0, -1)", x.where(0, -1), TwoKerbs.BAD);
        check.due("where(2, 0)", x.where(2, 0), TwoKerbs.BAD);
        check.due("where(-1, 0)", x.where(-1, 0), TwoKerbs.BAD);
        x.tides(2);
        check.due("from now on", x.where(0, 1), 1);
        check.due("now", x.where(0, 0), TwoKerbs.NONE);
        TwoKerbs tied = Check.told(STREET);
        tied.ties(0, 1);
        check.due("a tied one", tied.where(0, 400), 0);
    }

    private static void whens() {
        TwoKerbs x = Check.told(STREET);
        check.due("when(0, 0)", x.when(0, 0), 0);
        check.due("when(0, 1)", x.when(0, 1), 3);
        check.due("when(0, 2)", x.when(0, 2), 7);
        check.due("when(1, 0)", x.when(1, 0), TwoKerbs.NONE);
        check.due("when(2, 0)", x.when(2, 0), TwoKerbs.BAD);
        check.due("when(0, 3)", x.when(0, 3), TwoKerbs.BAD);
        check.due("when(0, -1)", x.when(0, -1), TwoKerbs.BAD);
        check.due("when(-1, 0)", x.when(-1, 0), TwoKerbs.BAD);
        x.tides(2);
        check.due("under way", x.when(0, 1), 3);
        check.due("not again", x.when(0, 0), TwoKerbs.NONE);
        TwoKerbs tied = Check.told(STREET);
        tied.ties(0, 1);
        check.due("a tied one", tied.when(0, 1), TwoKerbs.NONE);
        check.due("a tied one where it lies", tied.when(0, 0), 0);
    }

    private static void whensAtTheEnd() {
        TwoKerbs x = Check.told("m20 1 0;k0 19;k1 19;d0 1 1;t0;");
        check.due("in the last of 20", x.when(0, 1), 20);
        TwoKerbs late = Check.told("m2 0 0;k0 0;k0 0;d0 1 4;t0;");
        for (int i = 0; i < 101; i++) {
            late.tides(99);
        }
        check.due("it lies there at last", late.when(0, 1), 9999);
        late.carries(0, 0);
        check.due("tides behind the last one are looked at", late.when(0, 1), 10003);
        check.due("where()", late.where(0, 4), 1);
    }

    private static void sends() {
        TwoKerbs x = Check.told(STREET);
        check.due("its own kerb", x.send(0, 0, 0), 0);
        check.due("the tide", x.send(0, 0, 1), 0);
        check.due("put onto it", x.send(0, 2, 0), 2);
        check.due("at once", x.send(0, 2, 1), 0);
        check.due("to the other town", x.send(0, 1, 0), 0);
        check.due("its tide", x.send(0, 1, 1), 3);
        check.due("from where another lies", x.send(1, 1, 0), 0);
        check.due("send(0, 3, 0)", x.send(0, 3, 0), TwoKerbs.BAD);
        check.due("send(0, -1, 0)", x.send(0, -1, 0), TwoKerbs.BAD);
        check.due("send(2, 0, 0)", x.send(2, 0, 0), TwoKerbs.BAD);
        check.due("send(0, 0, 2)", x.send(0, 0, 2), TwoKerbs.BAD);
        check.due("send(0, 0, -1)", x.send(0, 0, -1), TwoKerbs.BAD);
        x.tides(2);
        check.due("under way", x.send(0, 0, 0), TwoKerbs.STATE);
        check.due("BAD ahead of STATE", x.send(0, 0, 2), TwoKerbs.BAD);
        x.tides(1);
        check.due("of the town where it lies now", x.send(0, 0, 0), TwoKerbs.NONE);
        check.due("no tide", x.send(0, 0, 1), TwoKerbs.NONE);
        // Kerbs 1 and 2 lead to 3 alike; 0 is slower.
        TwoKerbs alike = Check.told("m2 0 0;k0 0;k0 0;k0 0;k1 0;d0 3 3;d1 3 2;d2 3 2;t0;");
        check.due("of several the lowest", alike.send(0, 3, 0), 1);
        check.due("their tide", alike.send(0, 3, 1), 2);
    }

    private static void sendsOfTied() {
        TwoKerbs x = Check.told(STREET);
        x.ties(0, 1);
        check.due("a tied one is not tied then", x.send(0, 1, 1), 3);
        check.due("it is tied still", x.thing(0, 3), 1);
    }

    private static void meets() {
        TwoKerbs x = Check.told("k0 3;k1 9;k0 2;d0 1 2;d1 2 4;t0;t2;t2;t1;");
        check.due("they lie on one now", x.meet(1, 2), 0);
        check.due("meet(0, 1)", x.meet(0, 1), 7);
        check.due("the other way round", x.meet(1, 0), 7);
        check.due("meet(0, 3)", x.meet(0, 3), 3);
        check.due("alike ones", x.meet(1, 1), TwoKerbs.BAD);
        check.due("meet(0, 4)", x.meet(0, 4), TwoKerbs.BAD);
        check.due("meet(4, 0)", x.meet(4, 0), TwoKerbs.BAD);
        check.due("meet(-1, 0)", x.meet(-1, 0), TwoKerbs.BAD);
        x.tides(5);
        check.due("0 and 3 went together, both under way", x.meet(0, 3), 7);
        TwoKerbs apart = Check.told("m2 0 0;k0 0;k0 0;d0 1 1;d1 0 1;t0;t1;");
        check.due("they change places for ever", apart.meet(0, 1), TwoKerbs.NONE);
        apart.ties(0, 1);
        check.due("a tied one waits", apart.meet(0, 1), 1);
    }

    /** Two things go round one behind the other, till the kerb of height 1 holds up the first one. */
    private static void meetsAtTheEnd() {
        TwoKerbs last = Check.told("m19 11 0;k0 0;k0 1;k0 0;k0 0;k0 0;k0 0;k0 0;k0 0;"
                + "d0 1 1;d1 2 4;d2 3 4;d3 4 4;d4 5 4;d5 6 4;d6 7 4;d7 0 3;t6;t1;");
        check.due("400 tides from now", last.meet(0, 1), 400);
        TwoKerbs late = Check.told("m19 13 6;k0 0;k0 0;k0 0;k0 1;k0 0;k0 0;k0 0;k0 0;"
                + "d0 1 4;d1 2 4;d2 3 1;d3 4 4;d4 5 4;d5 6 4;d6 7 4;d7 0 3;t1;t0;");
        check.due("401 tides from now", late.meet(0, 1), TwoKerbs.NONE);
        late.tides(1);
        check.due("a tide later", late.meet(0, 1), 401);
    }

    private static void rounds() {
        check.due("it lies for ever", Check.told("m7 0 0;k0 1;t0;").round(0), 7);
        check.due("round of two, of three tides", Check.told("m2 0 0;k0 0;k0 0;d0 1 2;d1 0 1;t0;").round(0), 6);
        check.due("modulo 3", Check.told("m3 0 0;k0 0;k0 0;d0 1 2;d1 0 1;t0;").round(0), 3);
        check.due("a drain to itself", Check.told("m2 0 0;k0 0;d0 0 3;t0;").round(0), 6);
        // Seven kerbs of delay 4 ahead of one that leads to itself: a long way, and a short round.
        check.due("a way ahead of the round", Check.told("m20 1 0;k0 19;k0 19;k0 19;k0 19;k0 19;k0 19;k0 19;k0 19;"
                + "d0 1 4;d1 2 4;d2 3 4;d3 4 4;d4 5 4;d5 6 4;d6 7 4;t0;").round(0), 20);
        check.due("all kerbs, a tide each", Check.told("m19 1 0;k0 18;k0 18;k0 18;k0 18;k0 18;k0 18;k0 18;k0 18;"
                + "d0 1 4;d1 2 4;d2 3 4;d3 4 4;d4 5 4;d5 6 4;d6 7 4;d7 0 4;t0;").round(0), 152);
        // Levels 1, 4, 0, 3, 6, 2, 5: from 0 to 2 to 1 to 3 to 0.
        TwoKerbs levels = Check.told("m7 3 1;k0 4;k0 2;k1 5;k1 0;d0 2 2;d1 3 1;d2 1 3;d3 0 1;t0;");
        check.due("by the levels", levels.round(0), 21);
        TwoKerbs x = Check.told("m2 0 0;k0 0;k0 0;d0 1 2;d1 0 1;t0;");
        x.tides(1);
        check.due("under way", x.round(0), 6);
        x.tides(1);
        x.ties(0, 1);
        check.due("a tied one", x.round(0), 2);
        check.due("round(1)", x.round(1), TwoKerbs.BAD);
        check.due("round(-1)", x.round(-1), TwoKerbs.BAD);
    }

    private static void odds() {
        TwoKerbs x = Check.told("m10 0 5;k0 3;k0 0;d0 1 1;d1 0 1;t0;");
        int[][] calls = {
            {0, 0, 0, 4, 1, 1}, {0, 1, 0, 4, 0, 1},
            {0, 1, 1, 4, 3, 5}, {0, 0, 1, 4, 2, 5},
            {0, 1, 1, 0, 1, 1}, {0, 0, 1, 0, 0, 1},
            {0, 1, 1, 10, 0, 1}, {0, 0, 1, 10, 1, 1},
            // Twice: it stays and stays, or goes and comes back (1 is always flooded).
            {0, 0, 2, 5, 3, 4}, {0, 1, 2, 5, 1, 4},
        };
        for (int[] c : calls) {
            String call = "odds(" + c[0] + ", " + c[1] + ", " + c[2] + ", " + c[3] + ", ";
            check.due(call + "0)", x.odds(c[0], c[1], c[2], c[3], 0), c[4]);
            check.due(call + "1)", x.odds(c[0], c[1], c[2], c[3], 1), c[5]);
        }
        check.due("least terms of 4 tides", x.odds(0, 1, 4, 9, 1), 10000);
        check.due("odds(1, ..)", x.odds(1, 0, 1, 1, 0), TwoKerbs.BAD);
        check.due("odds(-1, ..)", x.odds(-1, 0, 1, 1, 0), TwoKerbs.BAD);
        check.due("odds(0, 2, ..)", x.odds(0, 2, 1, 1, 0), TwoKerbs.BAD);
        check.due("odds(0, -1, ..)", x.odds(0, -1, 1, 1, 0), TwoKerbs.BAD);
        check.due("n = 5", x.odds(0, 0, 5, 1, 0), TwoKerbs.BAD);
        check.due("n = -1", x.odds(0, 0, -1, 1, 0), TwoKerbs.BAD);
        check.due("x = 11", x.odds(0, 0, 1, 11, 0), TwoKerbs.BAD);
        check.due("x = -1", x.odds(0, 0, 1, -1, 0), TwoKerbs.BAD);
        check.due("what = 2", x.odds(0, 0, 1, 1, 2), TwoKerbs.BAD);
        check.due("what = -1", x.odds(0, 0, 1, 1, -1), TwoKerbs.BAD);
    }

    private static void oddsOfWeakTides() {
        TwoKerbs low = Check.told("m10 0 2;k0 0;k0 0;d0 1 1;t0;");
        check.due("a weak level is below 0", low.odds(0, 1, 1, 10, 0), 0);
        TwoKerbs even = Check.told("m10 0 3;k0 0;k0 0;d0 1 1;t0;");
        check.due("a weak level of 0", even.odds(0, 1, 1, 10, 0), 1);
        TwoKerbs slow = Check.told("m10 0 2;k0 0;k0 0;d0 1 3;t0;");
        check.due("under way", slow.odds(0, 1, 2, 5, 0), 0);
        check.due("it comes if the first or the second is not weak", slow.odds(0, 1, 4, 5, 0), 3);
        check.due("of 4", slow.odds(0, 1, 4, 5, 1), 4);
        slow.ties(0, 1);
        check.due("a tied one stays", slow.odds(0, 0, 4, 5, 0), 1);
        check.due("surely", slow.odds(0, 0, 4, 5, 1), 1);
        // Levels 0, 3, 6, ..: from tide 2 on 6, which is 3 if weak.
        TwoKerbs later = Check.told("k0 4;k0 0;d0 1 1;t0;");
        later.tides(2);
        check.due("the levels of the next tides", later.odds(0, 1, 1, 3, 0), 7);
        // 6 and 9 then: the second floods the kerb even if it is weak.
        check.due("two of them", later.odds(0, 1, 2, 3, 0), 1);
        TwoKerbs edge = Check.told("m10 0 5;k0 5;k0 9;d0 1 1;t0;");
        check.due("a level as high as the kerb", edge.odds(0, 1, 1, 0, 0), 1);
    }

    private static void nothingIsChanged() {
        TwoKerbs x = Check.told(STREET);
        x.tides(2);
        x.where(0, 9);
        x.when(0, 2);
        x.send(1, 1, 0);
        x.meet(0, 1);
        x.round(0);
        x.odds(0, 1, 4, 5, 0);
        check.due("where 0 leads", x.thing(0, 1), 1);
        check.due("tides to go", x.thing(0, 2), 1);
        check.due("where 1 lies", x.thing(1, 0), 2);
        check.due("the tide", x.now(0), 2);
        check.due("drifts", x.now(2), 2);
        check.due("to undo", x.now(4), 1);
    }
}
