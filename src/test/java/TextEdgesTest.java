/** The document's part 1: each sentence about THE TEXT that names a boundary case, with a test of its own. */
final class TextEdgesTest {
    private static final Check check = new Check();
    private static final String EIGHT = "k0 0;k0 0;k0 0;k0 0;k0 0;k0 0;k0 0;k0 0;";

    public static void main(String[] args) {
        eightKerbsAtMost();
        fiveThingsAtMost();
        townIsZeroOrOne();
        heightIsUpTo19();
        moduloIsTwoToTwenty();
        stepIsBelowModulo();
        offsetIsBelowModulo();
        tenThreeZeroAtFirst();
        levelIsToldOnceAtMost();
        drainLeadsToAKerbThatThereIs();
        drainIsToldAheadOfNoKerb();
        delayIsOneToFour();
        drainLeadsToItselfTillTold();
        drainToldAgainIsTheLater();
        thingLiesOnAKerbToldAhead();
        numberIsUpTo99();
        numberHasNoZeroAhead();
        unfitNumbersWhereverOneStands();
        emptyTextTellsNothing();
        textMayBeFull();
        textEndsTooEarly();
        everyLetterAtAnItemsBegin();
        everyLetterWhereANumberStands();
        everyLetterAtAnItemsEnd();
        blanksStandBetweenTokens();
        blanksPartNumbers();
        firstFaultIsTold();
        faultyTextIsKept();
        check.end();
    }

    /** What towns() answers, and how many letters there are then: none, or all, if it was refused. */
    private static TwoKerbs towns(String text, int want) {
        TwoKerbs x = new TwoKerbs();
        Check.type(x, text);
        check.due("towns() of \"" + text + "\"", x.towns(), want);
        check.due("letters behind towns() of \"" + text + "\"", x.count(7), want < 0 ? text.length() : 0);
        return x;
    }

    private static void fault(String text, int place) {
        towns(text, -10 - place);
    }

    private static void eightKerbsAtMost() {
        check.due("KERBS", towns(EIGHT, 8).count(0), 8);
        check.due("the eighth's HEIGHT", towns(EIGHT.replaceAll("0;$", "9;"), 8).kerb(7, 1), 9);
        fault(EIGHT + "k0 0;", 40);
        fault(EIGHT + "k", 40);
        fault(EIGHT + "t0;  k0 0;", 45);
    }

    private static void fiveThingsAtMost() {
        TwoKerbs x = towns("k0 0;k1 0;t0;t0;t0;t0;t1;", 7);
        check.due("THINGS", x.count(1), 5);
        check.due("the fifth", x.thing(4, 0), 1);
        fault("k0 0;t0;t0;t0;t0;t0;t0;", 20);
        fault("k0 0;t0;t0;t0;t0;t0; t", 21);
        check.due("none", towns("k0 0;", 1).count(1), 0);
    }

    private static void townIsZeroOrOne() {
        check.due("TOWN 0", towns("k0 0;", 1).kerb(0, 0), 0);
        check.due("TOWN 1", towns("k1 0;", 1).kerb(0, 0), 1);
        fault("k2 0;", 1);
        fault("k 99 0;", 2);
    }

    private static void heightIsUpTo19() {
        check.due("HEIGHT 0", towns("k0 0;", 1).kerb(0, 1), 0);
        check.due("HEIGHT 19", towns("k0 19;", 1).kerb(0, 1), 19);
        check.due("HEIGHT is not below MODULO", towns("m2 0 0;k0 19;", 2).kerb(0, 1), 19);
        fault("k0 20;", 3);
        fault("k0 99;", 3);
    }

    private static void moduloIsTwoToTwenty() {
        check.due("MODULO 2", towns("m2 0 0;", 1).count(2), 2);
        check.due("MODULO 20", towns("m20 0 0;", 1).count(2), 20);
        fault("m0 0 0;", 1);
        fault("m1 0 0;", 1);
        fault("m21 0 0;", 1);
    }

    private static void stepIsBelowModulo() {
        check.due("STEP 0", towns("m20 0 1;", 1).count(3), 0);
        check.due("STEP 1 of 2", towns("m2 1 0;", 1).count(3), 1);
        check.due("STEP 19 of 20", towns("m20 19 0;", 1).count(3), 19);
        fault("m2 2 0;", 3);
        fault("m19 19 0;", 4);
        fault("m20 20 0;", 4);
    }

    private static void offsetIsBelowModulo() {
        check.due("OFFSET 0", towns("m20 1 0;", 1).count(4), 0);
        check.due("OFFSET 1 of 2", towns("m2 0 1;", 1).count(4), 1);
        check.due("OFFSET 19 of 20", towns("m20 0 19;", 1).count(4), 19);
        fault("m2 0 2;", 5);
        fault("m19 0 19;", 6);
        fault("m20 0 20;", 6);
    }

    /** Also if an earlier text told others. */
    private static void tenThreeZeroAtFirst() {
        TwoKerbs x = Check.told("m7 5 6;");
        for (String text : new String[] {"", "k0 0;"}) {
            Check.type(x, text);
            x.towns();
            check.due("MODULO without m", x.count(2), 10);
            check.due("STEP without m", x.count(3), 3);
            check.due("OFFSET without m", x.count(4), 0);
            Check.type(x, "m7 5 6;");
            x.towns();
        }
    }

    private static void levelIsToldOnceAtMost() {
        towns("m5 4 3;", 1);
        fault("m5 4 3;m5 4 3;", 7);
        fault("m5 4 3;k0 0; m", 13);
        TwoKerbs x = towns("k0 0;t0;m5 4 3;", 3);
        check.due("m may be the last", x.count(2) * 10000 + x.count(3) * 100 + x.count(4), 50403);
        Check.type(x, "m6 1 2;");
        check.due("m in the next text", x.towns(), 1);
        check.due("its MODULO", x.count(2), 6);
    }

    private static void drainLeadsToAKerbThatThereIs() {
        TwoKerbs x = towns("k0 0;k1 0;d0 1 1;d1 1 2;", 4);
        check.due("to the last", x.kerb(0, 2), 1);
        check.due("to itself", x.kerb(1, 2), 1);
        check.due("of the eighth", towns(EIGHT + "d7 0 3;", 9).kerb(7, 3), 3);
        fault("k0 0;k1 0;d0 2 1;", 13);
        fault("k0 0;k1 0;d2 0 1;", 11);
        fault(EIGHT + "d8 0 1;", 41);
        fault(EIGHT + "d0 8 1;", 43);
        fault("k0 0;d0 1 1;k0 0;", 8);
    }

    private static void drainIsToldAheadOfNoKerb() {
        fault("d0 0 1;", 1);
        fault("d0 0 1;k0 0;", 1);
    }

    private static void delayIsOneToFour() {
        check.due("DELAY 1", towns("k0 0;d0 0 1;", 2).kerb(0, 3), 1);
        check.due("DELAY 4", towns("k0 0;d0 0 4;", 2).kerb(0, 3), 4);
        fault("k0 0;d0 0 0;", 10);
        fault("k0 0;d0 0 5;", 10);
    }

    /** Also if an earlier text told another one for the same KERB. */
    private static void drainLeadsToItselfTillTold() {
        TwoKerbs x = towns("k0 0;k0 0;d0 1 3;d1 0 4;", 4);
        for (int i = 0; i < 2; i++) {
            Check.type(x, "k0 0;k0 0;");
            x.towns();
            check.due("DRAIN of 0", x.kerb(0, 2), 0);
            check.due("DRAIN of 1", x.kerb(1, 2), 1);
            check.due("DELAY of 0", x.kerb(0, 3), 1);
            check.due("DELAY of 1", x.kerb(1, 3), 1);
        }
    }

    private static void drainToldAgainIsTheLater() {
        TwoKerbs x = towns("k0 0;k0 0;d0 1 4;d0 0 2;", 4);
        check.due("the later DRAIN", x.kerb(0, 2), 0);
        check.due("the later DELAY", x.kerb(0, 3), 2);
    }

    private static void thingLiesOnAKerbToldAhead() {
        check.due("on the last", towns("k0 0;k1 0;t1;", 3).thing(0, 0), 1);
        check.due("on the eighth", towns(EIGHT + "t7;", 9).thing(0, 0), 7);
        fault("k0 0;k1 0;t2;", 11);
        fault("k0 0;t1;k1 0;", 6);
        fault("t0;", 1);
        fault(EIGHT + "t8;", 41);
    }

    private static void numberIsUpTo99() {
        fault("k0 0;99", 5);
        fault("k0 0 99;", 5);
        fault("k0 100;", 3);
        fault("k100 0;", 1);
        fault("m 100 0 0;", 2);
        fault("k0 0;d0 0 100;", 10);
        fault("k0 0;t 100;", 7);
        // Numbers that would be within their bounds if an int or a long wrapped around.
        fault("k0 4294967296;", 3);
        fault("k0 18446744073709551616;", 3);
    }

    private static void numberHasNoZeroAhead() {
        check.due("a 0 behind another", towns("k0 10;", 1).kerb(0, 1), 10);
        fault("k00 0;", 1);
        fault("k01 0;", 1);
        fault("k0 00;", 3);
        fault("k0 010;", 3);
        fault("m02 0 0;", 1);
        fault("k0 0;d0 0 01;", 10);
        fault("k0 0;t00;", 6);
    }

    /** Above 99, or with a 0 ahead: at each place of each item, be there a kerb told or not. */
    private static void unfitNumbersWhereverOneStands() {
        String[] items = {"m 5 4 4 ;", "k 1 9 ;", "d 0 0 1 ;", "t 0 ;"};
        String[] unfit = {"00", "01", "04", "000", "010", "100", "101", "256", "999", "4294967295", "4294967296"};
        for (String item : items) {
            String[] tokens = item.split(" ");
            for (int which = 1; which < tokens.length - 1; which++) {
                for (String number : unfit) {
                    String[] changed = tokens.clone();
                    changed[which] = number;
                    String told = "k0 0;" + String.join(" ", changed);
                    // Ahead of it: the first item, the letter, and as many numbers of one digit, each with a blank.
                    fault(told, 5 + 2 * which);
                }
            }
            towns("k0 0;" + item, 2);
        }
    }

    private static void emptyTextTellsNothing() {
        TwoKerbs x = towns("k0 0;t0;", 2);
        check.due("towns() without letters", x.towns(), 0);
        check.due("KERBS", x.count(0), 0);
        check.due("THINGS", x.count(1), 0);
        towns(" ", 0);
        towns(" ".repeat(150), 0);
    }

    private static void textMayBeFull() {
        TwoKerbs x = new TwoKerbs();
        Check.type(x, "k0 7" + " ".repeat(144));
        check.due("letter 149", x.type('!'), 149);
        check.due("letter 150", x.type(';'), 150);
        check.due("letter 151", x.type(';'), TwoKerbs.FULL);
        check.due("a full text, with a fault", x.towns(), -10 - 148);
        check.due("its letters", x.clear(), 150);
        towns("k0 7" + " ".repeat(145) + ";", 1);
        fault("k0 7;" + " ".repeat(144) + "x", 149);
        fault("k0 7" + " ".repeat(146), 150);
        fault("k0 7;" + " ".repeat(144) + "k", 150);
        fault("k0 7;" + " ".repeat(143) + "t0", 150);
        towns("k0 0;" + "d0 0 4;".repeat(18) + "t0;".repeat(5) + "    ", 24);
        check.due("the fullest text ends with a THING",
                towns("m20 19 18;" + EIGHT + "d7 0 4;".repeat(12) + "t0;".repeat(4) + "t 7;", 26).thing(4, 0), 7);
    }

    /** Each beginning of a text ends too early, but where an item ends. */
    private static void textEndsTooEarly() {
        String text = "m 5 3 0 ;k0 4 ;k1 19; d 0 1 2;t1 ; t0;";
        int items = 0;
        boolean isWithin = false;
        for (int length = 1; length <= text.length(); length++) {
            char last = text.charAt(length - 1);
            items += last == ';' ? 1 : 0;
            isWithin = last != ';' && (isWithin || last != ' ');
            towns(text.substring(0, length), isWithin ? -10 - length : items);
        }
        check.due("items", items, 6);
    }

    private static void everyLetterAtAnItemsBegin() {
        for (int letter = 0; letter <= 255; letter++) {
            boolean begins = "mkdt".indexOf(letter) >= 0;
            towns("k0 0;" + (char) letter, letter == ' ' ? 1 : begins ? -16 : -15);
        }
    }

    private static void everyLetterWhereANumberStands() {
        for (int letter = 0; letter <= 255; letter++) {
            fault("k" + (char) letter, " 01".indexOf(letter) >= 0 ? 2 : 1);
        }
    }

    private static void everyLetterAtAnItemsEnd() {
        for (int letter = 0; letter <= 255; letter++) {
            boolean goesOn = letter >= '0' && letter <= '9';
            towns("k0 0" + (char) letter, letter == ';' ? 1 : letter == ' ' ? -15 : goesOn ? -13 : -14);
        }
    }

    private static void blanksStandBetweenTokens() {
        towns("   k   0   0   ;   t   0   ;   ", 2);
        towns("k0 0;t0;", 2);
        fault("k0\t0;", 2);
        fault("k0\n0;", 2);
        fault("k0" + (char) 160 + "0;", 2);
        fault("k0" + (char) 0 + "0;", 2);
    }

    private static void blanksPartNumbers() {
        check.due("1 and 9, not 19", towns("k1 9;", 1).kerb(0, 1), 9);
        fault("k1 1 9;", 5);
        fault("k19;", 1);
        fault("k0 0;t0 0;", 8);
    }

    /** Of two faults the one that stands first, of whatever kind they are. */
    private static void firstFaultIsTold() {
        fault("k2 x;", 1);
        fault("k2 100;", 1);
        fault("k0 x 100;", 3);
        fault("k0 20", 3);
        fault("k0 0;t1;t01;", 6);
        fault("m5 0 0;m21 0 0;", 7);
        fault(EIGHT + "k2 20;", 40);
        fault("k0 0;t0;t0;t0;t0;t0;t9;", 20);
    }

    private static void faultyTextIsKept() {
        TwoKerbs x = towns("k0 0", -14);
        check.due("a letter more", x.type(';'), 5);
        check.due("it is right then", x.towns(), 1);
    }
}
