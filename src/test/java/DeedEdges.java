/** Promises 30 to 38, in deed: a test for each sentence that names a boundary case. */
final class DeedEdges extends Checks {
    private static final int UP = 0, RIGHT = 1, DOWN = 2, LEFT = 3;
    private static final int[] NO_WALKERS = {-1, 2, 5, 6, LEAST, MOST};

    private static FingerSaysFar two() {
        return walkersOf(0, 0);
    }

    private static void goesOn(FingerSaysFar x, int walker, int way, int steps) {
        for (int i = 0; i < steps; i++) {
            x.goes(walker, way);
        }
    }

    // ---- promise 30: "One GOES up (0: Y less 1), right (1), down (2), left (3): the minutes of it."

    static void p30_fourWays() {
        FingerSaysFar x = two();
        due(x.goes(1, RIGHT), 5);
        due(x.of(1, 7), 1);
        due(x.goes(1, DOWN), 5);
        due(x.of(1, 7), 13);
        due(x.goes(1, LEFT), 5);
        due(x.of(1, 7), 12);
        due(x.goes(1, UP), 5);
        due(x.of(1, 7), 0);
        due(x.of(1, 8), 20);
        due(x.of(0, 7), 0);
    }

    static void p30_noSuchWay() {
        FingerSaysFar x = two();
        for (int way : new int[] {-1, 4, LEAST, MOST}) {
            due(x.goes(0, way), BAD);
        }
    }

    static void p30_noSuchWalker() {
        FingerSaysFar x = two();
        for (int walker : NO_WALKERS) {
            due(x.goes(walker, RIGHT), BAD);
        }
        due(new FingerSaysFar().goes(0, RIGHT), BAD);
    }

    /** "STATE: over the edge." */
    static void p30_overTheUpperEdge() {
        FingerSaysFar x = two();
        for (int column = 0; column < 12; column++) {
            due(x.goes(0, UP), STATE);
            due(x.of(0, 7), column);
            x.goes(0, RIGHT);
        }
    }

    static void p30_overTheLowerEdge() {
        FingerSaysFar x = two();
        goesOn(x, 0, DOWN, 11);
        for (int column = 0; column < 12; column++) {
            due(x.goes(0, DOWN), STATE);
            due(x.of(0, 7), 132 + column);
            x.goes(0, RIGHT);
        }
    }

    /** The right edge and the next row's left one lie apart. */
    static void p30_overTheRightEdge() {
        FingerSaysFar x = two();
        goesOn(x, 0, RIGHT, 11);
        for (int y = 0; y < 12; y++) {
            due(x.goes(0, RIGHT), STATE);
            due(x.of(0, 7), 12 * y + 11);
            x.goes(0, DOWN);
        }
    }

    static void p30_overTheLeftEdge() {
        FingerSaysFar x = two();
        for (int y = 0; y < 12; y++) {
            due(x.goes(0, LEFT), STATE);
            due(x.of(0, 7), 12 * y);
            x.goes(0, DOWN);
        }
    }

    static void p30_overTheEdgeNothingIsLed() {
        FingerSaysFar x = two();
        x.goes(0, UP);
        x.goes(0, LEFT);
        due(x.of(0, 8), 0);
        due(x.led(0), 0);
        due(x.led(1), 0);
    }

    static void p30_badIsAheadOfState() {
        FingerSaysFar x = two();
        due(x.goes(2, UP), BAD);
        due(x.goes(0, 4), BAD);
    }

    /** Minutes by the heights of both CELLS, his HEART, LOAD and SHOES and the WEATHER as they are then. */
    static void p30_minutesAsTheyAreThen() {
        FingerSaysFar x = two();
        x.mend(1, 0, 9);
        due(x.goes(0, RIGHT), 32);
        due(x.goes(0, LEFT), 5);
        x.takes(0, 9);
        due(x.goes(0, DOWN), 14);
        x.cheer(0);
        due(x.goes(0, UP), 13);
        x.mend(0, 6, 9);
        due(x.goes(0, DOWN), 22);
        x.mend(0, 5, 9);
        due(x.goes(0, UP), 18);
        x.putDown(0);
        due(x.goes(0, DOWN), 9);
        due(x.of(0, 8), 32 + 5 + 14 + 13 + 22 + 18 + 9);
    }

    // ---- promise 31: "He PUTS DOWN his LOAD: what it was. BAD."

    /** Terms: "PUTS DOWN his LOAD (0 then)", "loads put down (LOADS above 0)". */
    static void p31_aLoadOf0IsNotLed() {
        FingerSaysFar x = two();
        due(x.putDown(0), 0);
        due(x.led(2), 0);
    }

    static void p31_theLeastAndTheGreatestLoad() {
        FingerSaysFar x = two();
        x.takes(0, 1);
        x.takes(1, 9);
        due(x.putDown(0), 1);
        due(x.of(0, 4), 0);
        due(x.of(1, 4), 9);
        due(x.led(2), 1);
        due(x.putDown(1), 9);
        due(x.of(1, 4), 0);
        due(x.led(2), 2);
        due(x.putDown(1), 0);
        due(x.led(2), 2);
    }

    static void p31_noSuchWalker() {
        FingerSaysFar x = two();
        for (int walker : NO_WALKERS) {
            due(x.putDown(walker), BAD);
        }
        due(x.led(2), 0);
    }

    // ---- promise 32: "He TAKES a LOAD (1 .. 9): 1. BAD; STATE: he has one."

    static void p32_loadsGoFrom1To9() {
        for (int load = 1; load <= 9; load++) {
            FingerSaysFar x = two();
            due(x.takes(1, load), 1);
            due(x.of(1, 4), load);
            due(x.of(0, 4), 0);
        }
    }

    static void p32_loadsTooSmallOrTooLarge() {
        FingerSaysFar x = two();
        for (int load : new int[] {0, -1, 10, LEAST, MOST}) {
            due(x.takes(0, load), BAD);
        }
        due(x.of(0, 4), 0);
    }

    static void p32_noSuchWalker() {
        FingerSaysFar x = two();
        for (int walker : NO_WALKERS) {
            due(x.takes(walker, 1), BAD);
        }
    }

    static void p32_heHasOne() {
        FingerSaysFar x = two();
        x.takes(0, 1);
        due(x.takes(0, 1), STATE);
        due(x.takes(0, 9), STATE);
        due(x.of(0, 4), 1);
        x.putDown(0);
        due(x.takes(0, 9), 1);
        x.mend(1, 4, 3);
        due(x.takes(1, 2), STATE);
        due(x.of(1, 4), 3);
        x.mend(1, 4, 0);
        due(x.takes(1, 2), 1);
    }

    static void p32_badIsAheadOfState() {
        FingerSaysFar x = two();
        x.takes(0, 1);
        due(x.takes(0, 0), BAD);
        due(x.takes(0, 10), BAD);
    }

    // ---- promise 33: "He is CHEERED: HEART then. VOID: BAD."

    /** Terms: "(HEART one more, 9 at most)". */
    static void p33_nineAtMost() {
        FingerSaysFar x = walkersOf(7, 0);
        due(x.cheer(0), 8);
        due(x.cheer(0), 9);
        due(x.cheer(0), 9);
        due(x.cheer(0), 9);
        due(x.of(0, 3), 9);
        due(x.of(1, 3), 0);
    }

    static void p33_fromTheLeastHeart() {
        FingerSaysFar x = walkersOf(-9, -1);
        due(x.cheer(0), -8);
        due(x.of(0, 3), -8);
        due(x.cheer(1), 0);
    }

    /** A cheer is led, though the HEART stays at 9. */
    static void p33_eachCheerIsLed() {
        FingerSaysFar x = walkersOf(8);
        x.cheer(0);
        due(x.led(3), 1);
        x.cheer(0);
        due(x.led(3), 2);
    }

    static void p33_noSuchWalker() {
        FingerSaysFar x = two();
        for (int walker : NO_WALKERS) {
            due(x.cheer(walker), VOID);
        }
        due(x.led(3), 0);
    }

    // ---- promise 34: "LED: steps (what 0), minutes (1), loads put down (2), cheers (3). BAD."

    static void p34_noSuchWhat() {
        FingerSaysFar x = two();
        for (int what : new int[] {-1, 4, LEAST, MOST}) {
            due(x.led(what), BAD);
        }
    }

    /** Terms: "LED of all": of all WALKERS together. */
    static void p34_ofAll() {
        FingerSaysFar x = walkersOf(0, 1);
        x.goes(0, RIGHT);
        x.goes(1, RIGHT);
        x.goes(1, RIGHT);
        x.takes(0, 4);
        x.takes(1, 5);
        x.putDown(0);
        x.putDown(1);
        x.cheer(0);
        x.cheer(1);
        x.cheer(1);
        x.cheer(1);
        due(x.led(0), 3);
        due(x.led(1), 13);
        due(x.led(2), 2);
        due(x.led(3), 4);
    }

    /** As many steps as an object has calls for, of 99 minutes each. */
    static void p34_manySteps() {
        FingerSaysFar x = walkersOf(0);
        law(x, "99");
        for (int i = 0; i < 500; i++) {
            x.goes(0, i % 2 == 0 ? RIGHT : LEFT);
        }
        due(x.led(0), 500);
        due(x.led(1), 49500);
        due(x.of(0, 8), 49500);
    }

    static void p34_askingLeadsNothing() {
        FingerSaysFar x = two();
        x.post(9);
        x.arm(0);
        x.way(143, 0, -1);
        x.step(1, 0);
        x.drawn(1, 5, 0);
        x.mend(0, 4, 5);
        x.mend(0, 4, 0);
        for (int what = 0; what <= 3; what++) {
            due(x.led(what), 0);
        }
    }

    // ---- promises 35 and 36: "AN IMAGE is kept: steps.", "It is laid back .. STATE: there is none."

    static void p35_anImageOfNothing() {
        FingerSaysFar x = new FingerSaysFar();
        due(x.image(), 0);
        due(x.back(), 0);
    }

    static void p35_stepsOfAll() {
        FingerSaysFar x = two();
        x.goes(0, RIGHT);
        x.goes(1, DOWN);
        due(x.image(), 2);
        due(x.led(0), 2);
    }

    static void p35_aLaterImageTakesTheFormersPlace() {
        FingerSaysFar x = two();
        x.image();
        x.goes(0, RIGHT);
        due(x.image(), 1);
        x.goes(0, RIGHT);
        due(x.back(), 1);
        due(x.of(0, 7), 1);
    }

    static void p36_thereIsNone() {
        FingerSaysFar x = two();
        x.goes(0, RIGHT);
        due(x.back(), STATE);
        due(x.of(0, 7), 1);
        due(x.led(0), 1);
    }

    /** An image is not used up. */
    static void p36_laidBackTwice() {
        FingerSaysFar x = two();
        x.goes(0, RIGHT);
        x.image();
        x.goes(0, RIGHT);
        due(x.back(), 1);
        x.goes(0, DOWN);
        due(x.back(), 1);
        due(x.of(0, 7), 1);
    }

    /** Terms: "keeps where WALKERS stand, HEARTS, LOADS, minutes, what LED tells". */
    static void p36_whatAnImageKeeps() {
        FingerSaysFar x = walkersOf(1, 2);
        x.takes(0, 3);
        x.goes(0, RIGHT);
        x.cheer(1);
        x.image();
        x.goes(0, DOWN);
        x.goes(1, DOWN);
        x.putDown(0);
        x.takes(1, 4);
        x.cheer(0);
        x.mend(1, 3, -5);
        due(x.back(), 1);
        int[][] kept = {{1, 3, 1, 7}, {3, 0, 0, 0}};
        for (int walker = 0; walker < 2; walker++) {
            due(x.of(walker, 3), kept[walker][0]);
            due(x.of(walker, 4), kept[walker][1]);
            due(x.of(walker, 7), kept[walker][2]);
            due(x.of(walker, 8), kept[walker][3]);
        }
        due(x.led(0), 1);
        due(x.led(1), 7);
        due(x.led(2), 0);
        due(x.led(3), 1);
    }

    static void p36_whatAnImageDoesNotKeep() {
        FingerSaysFar x = two();
        x.post(3);
        x.image();
        x.mend(0, 5, 9);
        x.mend(13, 0, 4);
        x.mend(0, 6, 3);
        x.mend(0, 1, 8);
        x.mend(0, 2, 9);
        x.feed('1');
        x.body(0);
        x.row(0, BYTES, 1);
        due(x.back(), 0);
        due(x.of(0, 5), 9);
        due(x.of(13, 0), 4);
        due(x.of(0, 6), 3);
        due(x.of(0, 1), 8);
        due(x.of(0, 2), 9);
        due(x.count(2), 1);
        due(x.count(3), 5);
        due(x.count(4), 1);
        due(x.put(0, 0, 1), 1);
    }

    /** "(WALKERS that came since as they are)". */
    static void p36_whoCameSince() {
        FingerSaysFar x = walkersOf(1);
        x.image();
        x.walker(5);
        x.goes(1, DOWN);
        x.takes(1, 2);
        x.cheer(1);
        x.goes(0, RIGHT);
        due(x.back(), 0);
        due(x.count(1), 2);
        due(x.of(1, 3), 6);
        due(x.of(1, 4), 2);
        due(x.of(1, 7), 12);
        due(x.of(1, 8), 1);
        due(x.of(0, 7), 0);
        due(x.led(0), 0);
    }

    static void p36_allSixCameSince() {
        FingerSaysFar x = new FingerSaysFar();
        x.image();
        for (int i = 0; i < 6; i++) {
            x.walker(i);
            x.goes(i, RIGHT);
        }
        due(x.back(), 0);
        for (int i = 0; i < 6; i++) {
            due(x.of(i, 7), 1);
            due(x.of(i, 3), i);
        }
    }

    static void p36_allSixAreKept() {
        FingerSaysFar x = walkersOf(1, 2, 3, 4, 5, 6);
        x.image();
        for (int i = 0; i < 6; i++) {
            x.goes(i, RIGHT);
            x.cheer(i);
        }
        due(x.back(), 0);
        for (int i = 0; i < 6; i++) {
            due(x.of(i, 7), 0);
            due(x.of(i, 3), i + 1);
        }
    }

    /** To lay an image back is no CHANGE, and undoes none. */
    static void p36_changesStayAsTheyAre() {
        FingerSaysFar x = walkersOf(1);
        x.image();
        x.mend(0, 3, 5);
        x.mend(0, 4, 6);
        x.undo();
        x.back();
        due(x.of(0, 3), 1);
        due(x.count(3), 1);
        due(x.redo(), 0);
        due(x.of(0, 4), 6);
        due(x.undo(), 1);
        due(x.undo(), 0);
        due(x.of(0, 3), 1);
    }

    // ---- promise 37: "UNDONE: how many may still be. STATE: none."

    static void p37_none() {
        FingerSaysFar x = two();
        due(x.undo(), STATE);
        x.mend(0, 3, 5);
        due(x.undo(), 0);
        due(x.undo(), STATE);
        due(x.of(0, 3), 0);
    }

    /** Terms: "the latest first". */
    static void p37_theLatestFirst() {
        FingerSaysFar x = two();
        x.mend(0, 3, 5);
        x.mend(0, 3, 6);
        x.mend(1, 4, 7);
        due(x.undo(), 2);
        due(x.of(1, 4), 0);
        due(x.of(0, 3), 6);
        due(x.undo(), 1);
        due(x.of(0, 3), 5);
        due(x.undo(), 0);
        due(x.of(0, 3), 0);
    }

    /** "all numbers of mend()". */
    static void p37_allNumbersOfMend() {
        FingerSaysFar x = two();
        x.post(5006);
        int[] was = {0, 5, 6, 0, 0, 5, 0};
        for (int what = 0; what <= 6; what++) {
            x.mend(0, what, 8);
            due(x.count(3), 1);
            due(x.undo(), 0);
            due(x.of(0, what), was[what]);
            due(x.redo(), 0);
            due(x.of(0, what), 8);
            x.undo();
        }
    }

    /** "40 at most are kept": the 41st drops the oldest. */
    static void p37_fortyAreKept() {
        FingerSaysFar x = two();
        for (int cell = 0; cell < 40; cell++) {
            x.mend(cell, 0, 1);
            due(x.count(3), cell + 1);
        }
        for (int left = 39; left >= 0; left--) {
            due(x.undo(), left);
        }
        due(x.undo(), STATE);
        due(x.of(0, 0), 0);
    }

    static void p37_theFortyFirstDropsTheOldest() {
        FingerSaysFar x = two();
        for (int cell = 0; cell < 41; cell++) {
            x.mend(cell, 0, 1 + cell % 9);
        }
        due(x.count(3), 40);
        for (int left = 39; left >= 0; left--) {
            due(x.undo(), left);
        }
        due(x.undo(), STATE);
        due(x.of(0, 0), 1);
        for (int cell = 1; cell < 41; cell++) {
            due(x.of(cell, 0), 0);
        }
    }

    static void p37_manyMoreThanForty() {
        FingerSaysFar x = two();
        for (int cell = 0; cell < 100; cell++) {
            x.mend(cell, 0, 1 + cell % 9);
        }
        due(x.count(3), 40);
        for (int left = 39; left >= 0; left--) {
            due(x.undo(), left);
            due(x.of(60 + left, 0), 0);
        }
        due(x.of(59, 0), 6);
        for (int left = 39; left >= 0; left--) {
            due(x.redo(), left);
        }
        for (int cell = 60; cell < 100; cell++) {
            due(x.of(cell, 0), 1 + cell % 9);
        }
    }

    /** What is dropped is a whole change: those kept still have their own numbers, before and behind. */
    static void p37_thoseKeptStayAsTheyWere() {
        FingerSaysFar x = two();
        posts(x, 5006, 7008);
        for (int i = 0; i < 7; i++) {
            x.mend(i % 2, 3, i + 1);
            x.mend(i, 0, i + 1);
            x.mend(i % 2, 4, i + 1);
            x.mend(0, 6, i + 1);
            x.mend(i % 2, 1, i + 20);
            x.mend(i % 2, 2, i + 40);
        }
        // 42 changes: the first two are forgotten
        due(x.count(3), 40);
        for (int left = 39; left >= 0; left--) {
            due(x.undo(), left);
        }
        int[][] first = {{5, 6, 1, 0, 5}, {7, 8, 0, 0, 5}};
        for (int number = 0; number < 2; number++) {
            for (int what = 1; what <= 5; what++) {
                due(x.of(number, what), first[number][what - 1]);
            }
        }
        due(x.of(0, 0), 1);
        due(x.of(0, 6), 0);
        for (int left = 39; left >= 0; left--) {
            due(x.redo(), left);
        }
        int[][] last = {{26, 46, 7, 7, 5}, {25, 45, 6, 6, 5}};
        for (int number = 0; number < 2; number++) {
            for (int what = 1; what <= 5; what++) {
                due(x.of(number, what), last[number][what - 1]);
            }
        }
        due(x.of(6, 0), 7);
        due(x.of(0, 6), 7);
    }

    /** Of forty one is undone and another comes: forty are kept, and the oldest is among them. */
    static void p37_undoneOnesMakeRoom() {
        FingerSaysFar x = two();
        for (int cell = 0; cell < 40; cell++) {
            x.mend(cell, 0, 1);
        }
        x.undo();
        x.mend(77, 0, 5);
        due(x.count(3), 40);
        for (int left = 39; left >= 0; left--) {
            due(x.undo(), left);
        }
        due(x.of(77, 0), 0);
        due(x.of(0, 0), 0);
    }

    /** "deeds are none (LOAD, HEART by them, too)". */
    static void p37_deedsAreNone() {
        FingerSaysFar x = two();
        x.goes(0, RIGHT);
        x.takes(0, 4);
        x.cheer(0);
        x.putDown(0);
        x.walker(3);
        x.post(4);
        due(x.count(3), 0);
        due(x.undo(), STATE);
        due(x.of(0, 3), 1);
        due(x.of(0, 7), 1);
    }

    /** An undone number becomes what it was ahead of the change, whatever deeds did since. */
    static void p37_deedsBehindAChange() {
        FingerSaysFar x = walkersOf(1);
        x.mend(0, 3, 5);
        x.mend(0, 4, 6);
        x.cheer(0);
        x.putDown(0);
        due(x.undo(), 1);
        due(x.of(0, 4), 0);
        due(x.of(0, 3), 6);
        due(x.undo(), 0);
        due(x.of(0, 3), 1);
    }

    // ---- promise 38: "DONE AGAIN: how many may still be. STATE: none."

    static void p38_none() {
        FingerSaysFar x = two();
        due(x.redo(), STATE);
        x.mend(0, 3, 5);
        due(x.redo(), STATE);
        x.undo();
        due(x.redo(), 0);
        due(x.of(0, 3), 5);
        due(x.redo(), STATE);
        due(x.of(0, 3), 5);
    }

    static void p38_howManyMayStillBe() {
        FingerSaysFar x = two();
        x.mend(0, 3, 5);
        x.mend(0, 4, 6);
        x.mend(0, 6, 7);
        x.undo();
        x.undo();
        x.undo();
        due(x.redo(), 2);
        due(x.count(3), 1);
        due(x.of(0, 3), 5);
        due(x.of(0, 4), 0);
        due(x.redo(), 1);
        due(x.of(0, 4), 6);
        due(x.redo(), 0);
        due(x.of(0, 6), 7);
        due(x.redo(), STATE);
        due(x.count(3), 3);
    }

    static void p38_forty() {
        FingerSaysFar x = two();
        for (int cell = 0; cell < 41; cell++) {
            x.mend(cell, 0, 3);
        }
        for (int i = 0; i < 40; i++) {
            x.undo();
        }
        for (int left = 39; left >= 0; left--) {
            due(x.redo(), left);
        }
        due(x.redo(), STATE);
        for (int cell = 0; cell < 41; cell++) {
            due(x.of(cell, 0), 3);
        }
        due(x.count(3), 40);
    }

    /** "(as long as no other came behind)". */
    static void p38_anotherCameBehind() {
        FingerSaysFar x = two();
        x.mend(0, 3, 5);
        x.mend(0, 4, 6);
        x.undo();
        x.mend(0, 5, 7);
        due(x.redo(), STATE);
        due(x.of(0, 4), 0);
        due(x.undo(), 1);
        due(x.redo(), 0);
        due(x.of(0, 5), 7);
        due(x.of(0, 4), 0);
    }

    /** Telling the same number, or one that is refused, is no change that came behind. */
    static void p38_noChangeCameBehind() {
        FingerSaysFar x = two();
        x.mend(0, 3, 5);
        x.undo();
        x.mend(0, 3, 0);
        x.mend(0, 3, 10);
        x.goes(0, RIGHT);
        x.takes(0, 2);
        x.walker(1);
        x.post(1);
        due(x.redo(), 0);
        due(x.of(0, 3), 5);
    }

    /** Done again, a number becomes what the change told, whatever deeds did since. */
    static void p38_deedsBehindAnUndoneChange() {
        FingerSaysFar x = two();
        x.mend(0, 4, 6);
        x.undo();
        x.takes(0, 2);
        due(x.redo(), 0);
        due(x.of(0, 4), 6);
        due(x.undo(), 0);
        due(x.of(0, 4), 0);
    }
}
