/** Promises 7 to 9, and what Terms say of the law's text: a test for each sentence that names a boundary case. */
final class LawEdges extends Checks {
    /** -2147483648, the least of all ints, as a term of the law. */
    private static final String LEAST_INT = "(0-2147*1000*1000-4836*100-48)";
    private static final String MOST_INT = "(2147*1000*1000+4836*100+47)";

    // ---- promise 7: "A byte (0 .. 255) comes to THE TAPE: how many it has. BAD, FULL (120)."

    static void p07_bytesGoFrom0To255() {
        FingerSaysFar x = new FingerSaysFar();
        due(x.feed(0), 1);
        due(x.feed(255), 2);
        due(x.count(2), 2);
    }

    static void p07_noBytes() {
        FingerSaysFar x = new FingerSaysFar();
        due(x.feed(-1), BAD);
        due(x.feed(256), BAD);
        due(x.feed(LEAST), BAD);
        due(x.feed(MOST), BAD);
        due(x.count(2), 0);
    }

    static void p07_aTapeHolds120() {
        FingerSaysFar x = new FingerSaysFar();
        for (int i = 1; i <= 120; i++) {
            due(x.feed('1'), i);
        }
        due(x.feed('1'), FULL);
        due(x.feed('1'), FULL);
        due(x.count(2), 120);
    }

    static void p07_badIsAheadOfFull() {
        FingerSaysFar x = new FingerSaysFar();
        feedText(x, times("1", 120));
        due(x.feed(256), BAD);
        due(x.feed(-1), BAD);
    }

    static void p07_whatIsRefusedIsNotOnTheTape() {
        FingerSaysFar x = walkersOf(0);
        feedText(x, times("1+", 59));
        feedText(x, "17");
        due(x.feed('5'), FULL);
        due(x.law(), 1);
        due(x.step(1, 0), 59 + 17);
        x.feed(-1);
        x.feed('8');
        x.feed(256);
        due(x.law(), 1);
        due(x.step(1, 0), 8);
    }

    static void p07_behindALawTheTapeBeginsAnew() {
        FingerSaysFar x = new FingerSaysFar();
        feedText(x, times("1", 120));
        x.law();
        due(x.feed('1'), 1);
    }

    // ---- promise 8: "THE TAPE becomes THE LAW: 1; -100 less its FAULT; THE TAPE is empty then."

    private static void fault(String text, int place) {
        due(law(new FingerSaysFar(), text), -100 - place);
    }

    private static void sound(String text) {
        due(law(new FingerSaysFar(), text), 1);
    }

    /** Terms: "LINES, one or more": an empty tape ends too early. */
    static void p08_anEmptyTape() {
        FingerSaysFar x = new FingerSaysFar();
        due(x.law(), -100);
        due(x.law(), -100);
    }

    static void p08_theTapeIsEmptyBehindALaw() {
        FingerSaysFar x = new FingerSaysFar();
        due(law(x, "12"), 1);
        due(x.count(2), 0);
    }

    static void p08_theTapeIsEmptyBehindAFault() {
        FingerSaysFar x = new FingerSaysFar();
        due(law(x, "12)"), -102);
        due(x.count(2), 0);
        due(law(x, "12"), 1);
    }

    static void p08_aFaultLeavesTheFormerLaw() {
        FingerSaysFar x = walkersOf(0);
        due(law(x, "7+"), -102);
        due(x.step(1, 0), 5);
        due(law(x, "9"), 1);
        due(law(x, "7;"), -102);
        due(x.step(1, 0), 9);
        due(x.law(), -100);
        due(x.step(1, 0), 9);
    }

    static void p08_aLaterLawTakesTheFormersPlace() {
        FingerSaysFar x = walkersOf(0);
        law(x, "9+u*u+k*k+1");
        law(x, "7");
        due(x.step(1, 0), 7);
        law(x, "8;9");
        due(x.step(1, 0), 8);
    }

    static void p08_aTextOf120Bytes() {
        sound(times("1+", 59) + "17");
        sound(times("1;", 59) + "17");
        sound(times("!u", 1) + times("*u", 59));
    }

    static void p08_aTextOf120BytesEndsTooEarly() {
        fault(times("1+", 60), 120);
        fault(times("1;", 60), 120);
        fault(times("1+", 59) + "(1", 120);
    }

    static void p08_aFaultInTheLastPlace() {
        fault(times("1+", 59) + "1)", 119);
        fault(times("1+", 59) + "1x", 119);
    }

    /** Terms: "the first byte with which no TEXT goes on", at the very first place, for each of the 256 bytes. */
    static void p08_faultsOfASingleByte() {
        FingerSaysFar x = new FingerSaysFar();
        for (int b = 0; b < 256; b++) {
            x.feed(b);
            boolean operand = "0123456789uklswh".indexOf(b) >= 0;
            boolean opens = "(!-".indexOf(b) >= 0;
            due(x.law(), operand ? 1 : opens ? -101 : -100);
        }
    }

    /** What may stand behind a start: bytes that make it sound, those that want more, and all others. */
    private static void behind(String start, String soundBytes, String wanting) {
        for (int b = 0; b < 256; b++) {
            FingerSaysFar x = new FingerSaysFar();
            feedText(x, start);
            x.feed(b);
            boolean isSound = soundBytes.indexOf(b) >= 0;
            boolean wants = wanting.indexOf(b) >= 0;
            due(x.law(), isSound ? 1 : -100 - start.length() - (wants ? 1 : 0));
        }
    }

    static void p08_bytesBehindAName() {
        behind("u", "", "|&<=>+-*/%?;");
    }

    static void p08_bytesBehindANumber() {
        behind("1", "0123456789", "|&<=>+-*/%?;");
    }

    static void p08_bytesBehindASign() {
        for (String sign : "| & < = > + - * / % ? ;".split(" ")) {
            behind("u" + sign, "0123456789uklswh", "(!-");
        }
    }

    static void p08_bytesBehindAnOpenOne() {
        behind("(", "", "0123456789uklswh(!-");
        behind("!", "0123456789uklswh", "(!-");
        behind("-", "0123456789uklswh", "(!-");
    }

    /** No ? and no ; within ( E ). */
    static void p08_bytesBehindANameInBrackets() {
        behind("(u", ")", "|&<=>+-*/%");
    }

    static void p08_bytesBehindAClosedBracket() {
        behind("(u)", "", "|&<=>+-*/%?;");
    }

    /** Terms: "B = S, or S < S, S = S, S > S": a second one does not follow. */
    static void p08_bytesBehindAComparison() {
        for (String sign : "< = >".split(" ")) {
            behind("u" + sign + "u", "", "|&+-*/%?;");
            behind("u+u" + sign + "u*u", "", "|&+-*/%?;");
        }
    }

    static void p08_behindAndOrALineComparesAnew() {
        sound("u<u&u<u");
        sound("u=u|u>u");
        sound("u<u?u<u;u<u");
        sound("u<(u<u)");
        sound("(u<u)<u");
        fault("u<(u<u<u)", 6);
        fault("(u<u)<u<u", 7);
        fault("u&u<u<u", 5);
        fault("u|u<u=u", 5);
    }

    /** Terms: "LINE: E, or E ? E": a second ? does not follow. */
    static void p08_bytesBehindAChoice() {
        behind("u?u", "", "|&<=>+-*/%;");
        fault("1?2?3", 3);
        sound("1?2;3?4");
        fault("1?2;3?4?5", 7);
    }

    /** Terms: "LINES, one or more, parted by ;". */
    static void p08_emptyLines() {
        fault(";", 0);
        fault(";1", 0);
        fault("1;", 2);
        fault("1;;2", 2);
        fault("1?2;", 4);
        fault("1?;2", 2);
        fault("?1", 0);
        fault("1;?2", 2);
    }

    /** Terms: "a number (1 to 4 digits)". */
    static void p08_numbersOf1To4Digits() {
        sound("0");
        sound("99");
        sound("999");
        sound("9999");
        sound("0000");
        fault("99999", 4);
        fault("00000", 4);
        fault("1+12345", 6);
        fault("(12345)", 5);
        sound("1234+1234");
    }

    static void p08_namesOfOneLetter() {
        fault("uk", 1);
        fault("u1", 1);
        fault("1u", 1);
        fault("1234u", 4);
        fault("U", 0);
        fault("(u)(k)", 3);
        fault("u(k)", 1);
        fault("u!k", 1);
    }

    /** Terms: "No blanks." */
    static void p08_noBlanks() {
        fault(" 1", 0);
        fault("1 ", 1);
        fault("1 +2", 1);
        fault("1+ 2", 2);
        fault("1;\n2", 2);
        fault("1\t", 1);
    }

    static void p08_bracketsThatDoNotMatch() {
        fault(")", 0);
        fault("1)", 1);
        fault("(1))", 3);
        fault("()", 1);
        fault("(1", 2);
        fault("((1)", 4);
        fault("(1;2)", 2);
        fault("(1?2)", 2);
        fault("1?(2;3)", 4);
    }

    /** Terms: "At most 6 of ( ! - ahead of an O are open at once." */
    static void p08_sixAreOpen() {
        sound("((((((1))))))");
        sound("!!!!!!1");
        sound("------1");
        sound("!-(!-(1))");
        sound("(-(-(-1)))");
        sound("1-------1");
    }

    static void p08_theSeventhOpenOneIsAFault() {
        fault("(((((((1)))))))", 6);
        fault("!!!!!!!1", 6);
        fault("-------1", 6);
        fault("!-(!-((1)))", 6);
        fault("!-(!-(!1))", 6);
        fault("((((((-1))))))", 6);
        fault("1--------1", 8);
        fault("(((((((", 6);
    }

    /** Each E has all six anew: behind ?, behind ;, on both sides of a sign. */
    static void p08_sixInEachPart() {
        sound("((((((1))))))?((((((2))))));((((((3))))))?((((((4))))))");
        sound("!!!!!!1?!!!!!!2;!!!!!!3");
        fault("1?(((((((2", 8);
        fault("1?2;(((((((3", 10);
        fault("1?2;3?-------4", 12);
    }

    static void p08_sixOpenOnesThatEndTooEarly() {
        fault("((((((", 6);
        fault("!!!!!!", 6);
        fault("((((((1)))))", 12);
    }

    /** "open at once": ! and - are open until their O ends, ( until its ). */
    static void p08_whatIsClosedIsOpenNoLonger() {
        sound("!!!!!!1+!!!!!!1");
        sound("------1;------1");
        sound("((((((1))))))*((((((1))))))");
        sound("((((((1)+(1))))))");
        sound("((((((1)))+(((1))))))");
        sound("-(-(-(1)+--1))");
        fault("-(-(-(1)+---1))", 11);
        sound("!(1)+!!!!!!1");
        sound("(((((!1+!1)))))");
        fault("(((((!1+!!1)))))", 9);
    }

    // ---- promise 9, the law: what a step from CELL 0 up to CELL 1 takes one by a text

    private static int by(String text) {
        FingerSaysFar x = walkersOf(-3);
        x.mend(0, 0, 2);
        x.mend(1, 0, 7);
        x.mend(0, 4, 4);
        x.mend(0, 5, 6);
        x.mend(0, 6, 1);
        due(law(x, text), 1);
        return x.step(1, 0);
    }

    /** Terms: "(held within 1 .. 99)". */
    static void p09_heldAt1() {
        due(by("1"), 1);
        due(by("0"), 1);
        due(by("0-1"), 1);
        due(by(LEAST_INT), 1);
    }

    static void p09_heldAt99() {
        due(by("98"), 98);
        due(by("99"), 99);
        due(by("100"), 99);
        due(by("9999"), 99);
        due(by(MOST_INT), 99);
    }

    static void p09_names() {
        due(by("u"), 5);
        due(by("20+k"), 17);
        due(by("l"), 4);
        due(by("s"), 6);
        due(by("10+w"), 11);
        due(by("h"), 7);
    }

    /** "u HEIGHT of the CELL one goes to less that of the one he goes from": from -9 to 9. */
    static void p09_uGoesFromMinus9To9() {
        FingerSaysFar x = walkersOf(0);
        x.mend(1, 0, 9);
        law(x, "20+u");
        due(x.step(1, 0), 29);
        due(x.step(1000, 0), 11);
        due(x.step(12, 0), 20);
        law(x, "20+h");
        due(x.step(1, 0), 29);
        due(x.step(1000, 0), 20);
    }

    static void p09_theLeastAndTheGreatestOfOne() {
        FingerSaysFar x = walkersOf(-9, 9);
        x.mend(0, 4, 9);
        x.mend(0, 5, 1);
        x.mend(1, 5, 9);
        x.mend(0, 6, 9);
        law(x, "20+k");
        due(x.step(1, 0), 11);
        due(x.step(1, 1), 29);
        law(x, "20+l");
        due(x.step(1, 0), 29);
        due(x.step(1, 1), 20);
        law(x, "20+s");
        due(x.step(1, 0), 21);
        due(x.step(1, 1), 29);
        law(x, "20+w");
        due(x.step(1, 0), 29);
    }

    /** Terms: "Ints that wrap". */
    static void p09_sumsWrap() {
        due(by(MOST_INT + "+1<0?50;60"), 50);
        due(by(MOST_INT + "+1=" + LEAST_INT + "?50;60"), 50);
    }

    static void p09_differencesWrap() {
        due(by(LEAST_INT + "-1>0?50;60"), 50);
        due(by(LEAST_INT + "-1=" + MOST_INT + "?50;60"), 50);
    }

    static void p09_productsWrap() {
        due(by("9999*9999*9999<0?50;60"), 50);
        due(by("0-9999*9999*9999%100"), 69);
    }

    static void p09_theLeastIntLessened() {
        due(by("-" + LEAST_INT + "<0?50;60"), 50);
        due(by(LEAST_INT + "/-1<0?50;60"), 50);
        due(by("7+" + LEAST_INT + "%-1"), 7);
    }

    /** "/ and % toward 0". */
    static void p09_dividedToward0() {
        due(by("20+7/2"), 23);
        due(by("20+-7/2"), 17);
        due(by("20+7/-2"), 17);
        due(by("20+-7/-2"), 23);
        due(by("20+7%4"), 23);
        due(by("20+-7%4"), 17);
        due(by("20+7%-4"), 23);
        due(by("20+-7%-4"), 17);
    }

    /** "by 0 they give 0". */
    static void p09_dividedBy0() {
        due(by("20+7/0"), 20);
        due(by("20+7%0"), 20);
        due(by("20+0/0"), 20);
        due(by("20+0%0"), 20);
        due(by("20+" + LEAST_INT + "/(u-5)"), 20);
        due(by("20+" + LEAST_INT + "%(u-5)"), 20);
        due(by("20+7/0*3+1"), 21);
    }

    /** "| & < = > ! give 1, 0". */
    static void p09_orGives1Or0() {
        due(by("20+(0|0)"), 20);
        due(by("20+(6|0)"), 21);
        due(by("20+(0|6)"), 21);
        due(by("20+(6|6)"), 21);
        due(by("20+(0|-1)"), 21);
        due(by("20+(0|0|6)"), 21);
    }

    static void p09_andGives1Or0() {
        due(by("20+(0&0)"), 20);
        due(by("20+(5&0)"), 20);
        due(by("20+(0&5)"), 20);
        due(by("20+(5&2)"), 21);
        due(by("20+(-1&-2)"), 21);
        due(by("20+(1&1&0)"), 20);
    }

    static void p09_comparisonsGive1Or0() {
        int[] less = {1, 0, 0};
        for (int i = 0; i < 3; i++) {
            int left = 6 + i;
            due(by("20+(" + left + "<7)"), 20 + less[i]);
            due(by("20+(" + left + "=7)"), 20 + (i == 1 ? 1 : 0));
            due(by("20+(" + left + ">7)"), 20 + less[2 - i]);
        }
        due(by("20+(-1<0)"), 21);
        due(by("20+(" + LEAST_INT + "<" + MOST_INT + ")"), 21);
        due(by("20+(" + LEAST_INT + ">" + MOST_INT + ")"), 20);
    }

    static void p09_notGives1Or0() {
        due(by("20+!0"), 21);
        due(by("20+!1"), 20);
        due(by("20+!5"), 20);
        due(by("20+!-1"), 20);
        due(by("20+!!5"), 21);
    }

    /** "all is worked out": what stands behind a | or & that is settled does no harm, and lacks nothing. */
    static void p09_allIsWorkedOut() {
        due(by("20+(1|7/0)"), 21);
        due(by("20+(0&7%0)"), 20);
        due(by("1?20;7/0"), 20);
    }

    static void p09_signsBindByTheirOrder() {
        due(by("2+3*4"), 14);
        due(by("20-3-4"), 13);
        due(by("20/3*2"), 12);
        due(by("20%7*2"), 12);
        due(by("20-3+4"), 21);
        due(by("4<3+2&1|0?50;60"), 50);
        due(by("1|0&0?50;60"), 50);
        due(by("0&0|1?50;60"), 50);
        due(by("3=2+1?50;60"), 50);
        due(by("-2*3+20"), 14);
        due(by("!0+4"), 5);
        due(by("!2*3+7"), 7);
        due(by("(2+3)*4"), 20);
        due(by("2*(3+(4-1))"), 12);
    }

    /** "The first LINE without a first E, or whose first E is not 0, counts". */
    static void p09_theFirstLineThatCounts() {
        due(by("0?50;60"), 60);
        due(by("1?50;60"), 50);
        due(by("7?50;60"), 50);
        due(by("-7?50;60"), 50);
        due(by("50;60"), 50);
        due(by("0?50;0?60;70;80"), 70);
        due(by("0?50;2?60;70"), 60);
    }

    /** A line that counts does so even if it gives 0. */
    static void p09_aLineThatGives0() {
        due(by("0;60"), 1);
        due(by("7?0;60"), 1);
    }

    /** "none: 0". */
    static void p09_noLineCounts() {
        due(by("0?50"), 1);
        due(by("0?50;0?60"), 1);
        due(by("u-5?50;k+3?60"), 1);
    }

    /** The longest text, every byte of which says something. */
    static void p09_aTextOf120Bytes() {
        due(by("!0" + times("+1", 59)), 60);
        due(by(times("0?1;", 29) + "6*7"), 42);
    }

    static void p09_numbersKeepAllTheirDigits() {
        due(by("9999-9990"), 9);
        due(by("0007"), 7);
        due(by("1000-0990"), 10);
    }

    /** The deepest that a text of 120 bytes can go. */
    static void p09_manyOpenSums() {
        String open = "0|1&0<1+1*(";
        due(by("20+(" + times(open, 5) + "3" + times(")", 5) + ")"), 21);
        due(by(times("1+(", 6) + "3" + times(")", 6)), 9);
    }

    /** "Without a text: 10, 3 u more if u is above 0, l and w more, k and s less." */
    static void p09_withoutAText() {
        FingerSaysFar x = walkersOf(0);
        due(x.step(1, 0), 5);
        int[] up = {8, 11, 14, 17, 20, 23, 26, 29, 32};
        for (int height = 1; height <= 9; height++) {
            x.mend(1, 0, height);
            due(x.step(1, 0), up[height - 1]);
            due(x.step(1000, 0), 5);
        }
    }

    static void p09_withoutATextAtTheEdges() {
        FingerSaysFar x = walkersOf(-9, 9);
        x.mend(0, 4, 9);
        x.mend(0, 5, 1);
        x.mend(1, 5, 9);
        x.mend(1, 0, 9);
        due(x.step(1, 1), 10 + 27 - 9 - 9);
        due(x.step(12, 1), 1);
        x.mend(0, 6, 9);
        due(x.step(1, 0), 10 + 27 + 9 + 9 + 9 - 1);
        due(x.step(12, 0), 10 + 9 + 9 + 9 - 1);
        due(x.step(12, 1), 1);
        x.mend(1, 3, 0);
        due(x.step(12, 1), 10);
    }

    // ---- promise 9: "Minutes of a step of one from a CELL to a side CELL (ft). BAD."

    static void p09_sideCells() {
        FingerSaysFar x = walkersOf(0);
        for (int ft : new int[] {66054, 66065, 66067, 66078, 1, 12, 1000, 12000, 11010, 11023, 132120, 132133, 143142,
            143131}) {
            due(x.step(ft, 0), 5);
        }
    }

    static void p09_notSideCells() {
        FingerSaysFar x = walkersOf(0);
        for (int ft : new int[] {66066, 0, 66053, 66055, 66077, 66079, 66064, 66068, 66042, 66090, 13, 143, 143000}) {
            due(x.step(ft, 0), BAD);
        }
    }

    /** Terms: "12 Y and X (X, Y 0 .. 11)": a row's end and the next row's begin lie apart. */
    static void p09_rowsDoNotWrapAround() {
        FingerSaysFar x = walkersOf(0);
        for (int y = 0; y < 11; y++) {
            int end = 12 * y + 11;
            due(x.step(1000 * end + end + 1, 0), BAD);
            due(x.step(1000 * (end + 1) + end, 0), BAD);
        }
        due(x.step(132000, 0), BAD);
        due(x.step(132, 0), BAD);
        due(x.step(11, 0), BAD);
    }

    static void p09_noSuchCell() {
        FingerSaysFar x = walkersOf(0);
        for (int ft : new int[] {143144, 144143, 143155, 132144, -1, -12, LEAST, MOST}) {
            due(x.step(ft, 0), BAD);
        }
    }

    static void p09_noSuchWalker() {
        FingerSaysFar x = walkersOf(0, 0);
        for (int walker : new int[] {-1, 2, 5, 6, LEAST, MOST}) {
            due(x.step(1, walker), BAD);
        }
        due(x.step(1, 1), 5);
        due(new FingerSaysFar().step(1, 0), BAD);
    }

    static void p09_askingIsNoStep() {
        FingerSaysFar x = walkersOf(0);
        x.step(1, 0);
        due(x.of(0, 7), 0);
        due(x.of(0, 8), 0);
        due(x.led(0), 0);
        due(x.led(1), 0);
    }
}
