/** Promises 10 to 19, ways: a test for each sentence that names a boundary case. */
final class WayEdges extends Checks {
    /** Told as ft by calls that want two CELLS; none of them is. */
    private static final int[] NO_CELLS = {144, 999, 144000, 143144, 1000000, -1, -1000, LEAST, MOST};
    /** Told as a walker where there are two. */
    private static final int[] NO_WALKERS = {-1, 2, 5, 6, LEAST, MOST};
    /** Told as ab where there are two walkers. */
    private static final int[] NO_PAIRS = {0, 11, 2, 20, 12, 21, 22, 6, 60, 100, -1, -10, LEAST, MOST};

    private static FingerSaysFar two() {
        return walkersOf(0, 0);
    }

    /** Cells of height 1 are paths of a minute a step, all others take 99. */
    private static FingerSaysFar paths(int... cells) {
        FingerSaysFar x = two();
        heights(x, 1, cells);
        law(x, "h=1?1;99");
        return x;
    }

    // ---- promise 10: "THE ARM. BAD." (aw: 10 times the POST, and the WALKER)

    static void p10_anArmToItsOwnCellIs0() {
        FingerSaysFar x = two();
        posts(x, 0, 77077);
        due(x.arm(0), 0);
        due(x.arm(11), 0);
    }

    static void p10_theLastPostAndTheLastWalker() {
        FingerSaysFar x = walkersOf(0, 1, 2, 3, -1, -2);
        posts(x, 0, 1, 2, 3, 4, 5, 6, 7);
        due(x.arm(75), 49);
        due(x.arm(70), 35);
        due(x.arm(5), 0);
        due(x.arm(15), 7);
        for (int aw : new int[] {6, 9, 76, 79, 80, 85, 100}) {
            due(x.arm(aw), BAD);
        }
    }

    static void p10_noSuchPostOrWalker() {
        FingerSaysFar x = two();
        due(x.arm(0), BAD);
        x.post(3);
        for (int aw : new int[] {2, 10, 11, 20, -1, -9, -10, -11, LEAST, MOST}) {
            due(x.arm(aw), BAD);
        }
        due(x.arm(1), 15);
        FingerSaysFar nobody = new FingerSaysFar();
        nobody.post(3);
        due(nobody.arm(0), BAD);
    }

    /** An arm goes from the POST's CELL to the other one: up there, or down. */
    static void p10_anArmHasADirection() {
        FingerSaysFar x = walkersOf(0);
        for (int y = 0; y < 12; y++) {
            x.mend(12 * y, 0, 3);
        }
        posts(x, 1, 1000);
        due(x.arm(0), 5);
        due(x.arm(10), 14);
    }

    /** Between any two side CELLS, at the edges too: up 4 by 17 minutes, down by 5. */
    static void p10_betweenAnyTwoSideCells() {
        for (int cell = 0; cell < 144; cell++) {
            if (cell % 12 < 11) {
                upAndDown(cell, cell + 1);
            }
            if (cell < 132) {
                upAndDown(cell, cell + 12);
            }
        }
    }

    private static void upAndDown(int low, int high) {
        FingerSaysFar x = walkersOf(0);
        x.mend(low, 0, 3);
        x.mend(high, 0, 7);
        posts(x, 1000 * low + high, 1000 * high + low);
        due(x.arm(0), 17);
        due(x.arm(10), 5);
    }

    static void p10_acrossTheMoorBySlowestSteps() {
        FingerSaysFar x = walkersOf(0);
        law(x, "99");
        posts(x, 143, 143000, 11132, 132011);
        for (int post = 0; post < 4; post++) {
            due(x.arm(10 * post), 22 * 99);
        }
    }

    // ---- promise 11: "minutes (k -1), how many steps (-2), how much UP (-3), the CELL behind k (0 on) steps"

    static void p11_aWayToItsOwnCell() {
        FingerSaysFar x = two();
        x.mend(7, 0, 9);
        due(x.way(7007, 0, -1), 0);
        due(x.way(7007, 0, -2), 0);
        due(x.way(7007, 0, -3), 0);
        due(x.way(7007, 0, 0), 7);
        due(x.way(7007, 0, 1), NOT);
    }

    static void p11_theFirstAndTheLastCell() {
        FingerSaysFar x = two();
        due(x.way(3006, 1, 0), 3);
        due(x.way(3006, 1, 3), 6);
        due(x.way(143000, 1, 0), 143);
        due(x.way(143000, 1, 22), 0);
    }

    /** "(NOT: there are not as many)". */
    static void p11_notAsManySteps() {
        FingerSaysFar x = two();
        due(x.way(3006, 0, 4), NOT);
        due(x.way(3006, 0, MOST), NOT);
        due(x.way(143, 0, 23), NOT);
    }

    static void p11_kBelowMinus3() {
        FingerSaysFar x = two();
        due(x.way(3006, 0, -4), BAD);
        due(x.way(3006, 0, LEAST), BAD);
    }

    static void p11_noSuchCell() {
        FingerSaysFar x = two();
        for (int ft : NO_CELLS) {
            due(x.way(ft, 0, -1), BAD);
        }
    }

    static void p11_noSuchWalker() {
        FingerSaysFar x = two();
        for (int walker : NO_WALKERS) {
            due(x.way(3006, walker, -1), BAD);
        }
        due(new FingerSaysFar().way(0, 0, -1), BAD);
    }

    static void p11_badIsAheadOfNot() {
        FingerSaysFar x = two();
        due(x.way(144, 0, 99), BAD);
        due(x.way(3006, 2, 99), BAD);
    }

    /** Terms: "of like ones that of which .. each next CELL has the least number". */
    static void p11_ofLikeWaysTheLeastNextCell() {
        FingerSaysFar x = two();
        int[] downRight = {0, 1, 2, 14, 26};
        int[] upLeft = {26, 14, 2, 1, 0};
        int[] downLeft = {2, 1, 0, 12, 24};
        int[] upRight = {24, 12, 0, 1, 2};
        for (int k = 0; k <= 4; k++) {
            due(x.way(26, 0, k), downRight[k]);
            due(x.way(26000, 0, k), upLeft[k]);
            due(x.way(2024, 0, k), downLeft[k]);
            due(x.way(24002, 0, k), upRight[k]);
        }
    }

    /** "from its beginning": the first step that differs settles it, not the last one. */
    static void p11_ofLikeWaysFromTheBeginning() {
        FingerSaysFar x = paths(4, 3, 15, 27, 39, 51, 63, 75, 87, 88, 89, 77, 6, 7, 8, 20, 32, 44, 56, 68, 80, 79, 78);
        due(x.way(5077, 0, -1), 12);
        due(x.way(5077, 0, -2), 12);
        due(x.way(5077, 0, 1), 4);
        due(x.way(5077, 0, 11), 89);
        // fewer steps on the other way, and it is the shorter one
        heights(x, 1, 18, 30, 42, 54, 66);
        due(x.way(5077, 0, -1), 8);
        due(x.way(5077, 0, 1), 6);
    }

    /** Fewest minutes count, not fewest steps. */
    static void p11_moreStepsInFewerMinutes() {
        FingerSaysFar x = paths(12, 24, 36, 37, 38, 39, 27, 15, 3);
        due(x.way(3, 0, -1), 9);
        due(x.way(3, 0, -2), 9);
        due(x.way(3, 0, 5), 38);
    }

    /** Of like minutes fewer steps are no better: the least next CELL counts. */
    static void p11_likeMinutesByUnlikeSteps() {
        FingerSaysFar x = two();
        law(x, "h=1?3;h=2?1;99");
        // right, down, right in 3 + 3 + 1 minutes; left and around below in seven of 1
        heights(x, 1, 67, 79);
        heights(x, 2, 80, 65, 77, 89, 90, 91, 92);
        due(x.way(66080, 0, -1), 7);
        due(x.way(66080, 0, -2), 7);
        due(x.way(66080, 0, 1), 65);
        x.mend(92, 0, 0);
        due(x.way(66080, 0, -1), 7);
        due(x.way(66080, 0, -2), 3);
        due(x.way(66080, 0, 1), 67);
    }

    /** Terms: "UP: how much he goes up on his WAY, all together": ups alone, each of them. */
    static void p11_upCountsEachRise() {
        FingerSaysFar x = two();
        law(x, "1");
        heights(x, 3, 1);
        heights(x, 1, 2);
        heights(x, 9, 3);
        due(x.way(4, 0, -3), 11);
        due(x.way(4000, 0, -3), 11);
        due(x.way(3, 0, -3), 11);
        due(x.way(3000, 0, -3), 2);
        due(x.way(1000, 0, -3), 0);
        due(x.way(1, 0, -3), 3);
    }

    static void p11_aLongWayThroughGaps() {
        FingerSaysFar x = two();
        law(x, "h=9?99;1");
        for (int y = 1; y < 12; y += 2) {
            for (int i = 0; i < 11; i++) {
                x.mend(12 * y + (y % 4 == 1 ? i : i + 1), 0, 9);
            }
        }
        due(x.way(120, 0, -1), 76);
        due(x.way(120, 0, -2), 76);
        due(x.way(120, 0, 76), 120);
        due(x.way(120, 0, 77), NOT);
    }

    // ---- promise 12: "REACH from a CELL: how many (what 0), the farthest (1). BAD."

    /** Terms: "(0 .. 999; where he stands, too)". */
    static void p12_in0MinutesWhereHeStands() {
        FingerSaysFar x = two();
        due(x.reach(66, 0, 0, 0), 1);
        due(x.reach(66, 0, 0, 1), 66);
        due(x.reach(143, 1, 0, 0), 1);
        due(x.reach(143, 1, 0, 1), 143);
    }

    static void p12_tFrom0To999() {
        FingerSaysFar x = two();
        due(x.reach(66, 0, 999, 0), 144);
        for (int t : new int[] {-1, 1000, LEAST, MOST}) {
            due(x.reach(66, 0, t, 0), BAD);
            due(x.reach(66, 0, t, 1), BAD);
        }
    }

    /** "in t minutes": a CELL to which it takes just t is one of them. */
    static void p12_justInTime() {
        FingerSaysFar x = two();
        due(x.reach(66, 0, 4, 0), 1);
        due(x.reach(66, 0, 5, 0), 5);
        due(x.reach(66, 0, 9, 0), 5);
        due(x.reach(66, 0, 10, 0), 13);
        due(x.reach(66, 0, 4, 1), 66);
        due(x.reach(66, 0, 9, 1), 54);
    }

    static void p12_notAllIn999() {
        FingerSaysFar x = two();
        law(x, "99");
        due(x.reach(0, 0, 989, 0), 55);
        due(x.reach(0, 0, 990, 0), 66);
        due(x.reach(0, 0, 999, 0), 66);
        due(x.reach(0, 0, 999, 1), 10);
        due(x.reach(143, 0, 999, 1), 23);
    }

    /** "of like ones the least". */
    static void p12_ofLikeFarOnesTheLeast() {
        FingerSaysFar x = two();
        due(x.reach(66, 0, 5, 1), 54);
        due(x.reach(0, 0, 5, 1), 1);
        due(x.reach(143, 0, 5, 1), 131);
        due(x.reach(66, 0, 10, 1), 42);
        due(x.reach(0, 0, 110, 1), 143);
        due(x.reach(0, 0, 109, 1), 131);
    }

    /** "by minutes from there": the farthest by minutes, not by steps, and not by minutes back. */
    static void p12_theFarthestByMinutesFromThere() {
        FingerSaysFar x = two();
        x.mend(67, 0, 1);
        due(x.reach(66, 0, 8, 0), 5);
        due(x.reach(66, 0, 8, 1), 67);
        due(x.reach(66, 0, 7, 1), 54);
        due(x.reach(67, 0, 5, 0), 5);
    }

    static void p12_noSuchCell() {
        FingerSaysFar x = two();
        for (int cell : new int[] {-1, 144, LEAST, MOST}) {
            due(x.reach(cell, 0, 1, 0), BAD);
        }
    }

    static void p12_noSuchWalker() {
        FingerSaysFar x = two();
        for (int walker : NO_WALKERS) {
            due(x.reach(0, walker, 1, 0), BAD);
        }
        due(new FingerSaysFar().reach(0, 0, 1, 0), BAD);
    }

    static void p12_whatIs0Or1() {
        FingerSaysFar x = two();
        for (int what : new int[] {-1, 2, LEAST, MOST}) {
            due(x.reach(0, 0, 1, what), BAD);
        }
    }

    // ---- promise 13: "TOGETHER (ab: 10 times the one and the other, unlike). BAD."

    static void p13_theSameOneTwice() {
        FingerSaysFar x = two();
        due(x.together(3, 0), BAD);
        due(x.together(3, 11), BAD);
    }

    static void p13_noSuchWalkers() {
        FingerSaysFar x = two();
        for (int ab : NO_PAIRS) {
            due(x.together(3, ab), BAD);
        }
        due(new FingerSaysFar().together(3, 1), BAD);
        due(walkersOf(1).together(3, 1), BAD);
        due(walkersOf(1).together(3, 10), BAD);
    }

    static void p13_theLastTwo() {
        FingerSaysFar x = walkersOf(0, 0, 0, 0, 1, 2);
        due(x.together(3, 45), 12);
        due(x.together(3, 54), 12);
        due(x.together(3, 50), 15);
        due(x.together(3, 46), BAD);
        due(x.together(3, 64), BAD);
        due(x.together(3, 55), BAD);
    }

    static void p13_noSuchCell() {
        FingerSaysFar x = two();
        for (int ft : NO_CELLS) {
            due(x.together(ft, 1), BAD);
        }
    }

    static void p13_toTheirOwnCell() {
        FingerSaysFar x = two();
        due(x.together(66066, 1), 0);
        due(x.together(143143, 10), 0);
    }

    /** Terms: "each step takes the greater of both". */
    static void p13_eachStepTakesTheGreater() {
        FingerSaysFar x = walkersOf(1, 2);
        law(x, "u*(3-k*2)>0?50;9");
        for (int y = 0; y < 12; y++) {
            x.mend(12 * y + 1, 0, 3);
        }
        due(x.way(2, 0, -1), 59);
        due(x.way(2, 1, -1), 59);
        due(x.together(2, 1), 100);
        due(x.together(2, 10), 100);
    }

    /** "minutes of the SHORTEST for both so": neither one's own way. */
    static void p13_theirWayMayBeNeitherOnesOwn() {
        FingerSaysFar x = walkersOf(1, 2);
        law(x, "h=k?1;h=3?20;h=0?40;50");
        heights(x, 1, 54, 55, 56);
        heights(x, 2, 78, 79, 80);
        heights(x, 3, 67);
        due(x.way(66068, 0, -1), 3 + 40);
        due(x.way(66068, 1, -1), 3 + 40);
        due(x.together(66068, 1), 20 + 40);
    }

    // ---- promise 14: "WITH WHOM. BAD; NOT."

    /** Terms: "NOT: nobody else is there". */
    static void p14_nobodyElse() {
        due(walkersOf(1).withWhom(3, 0), NOT);
        due(walkersOf(1).withWhom(0, 0), NOT);
    }

    static void p14_badIsAheadOfNot() {
        FingerSaysFar x = walkersOf(1);
        due(x.withWhom(144, 0), BAD);
        due(x.withWhom(3, 1), BAD);
        due(x.withWhom(3, -1), BAD);
        due(new FingerSaysFar().withWhom(3, 0), BAD);
    }

    static void p14_noSuchCell() {
        FingerSaysFar x = two();
        for (int ft : NO_CELLS) {
            due(x.withWhom(ft, 0), BAD);
        }
    }

    static void p14_noSuchWalker() {
        FingerSaysFar x = two();
        for (int walker : NO_WALKERS) {
            due(x.withWhom(3, walker), BAD);
        }
    }

    /** "another WALKER": never oneself, though one is fastest so. */
    static void p14_neverOneself() {
        FingerSaysFar x = walkersOf(3, -3, -2);
        due(x.withWhom(3, 0), 2);
        FingerSaysFar y = walkersOf(-3, 3);
        due(y.withWhom(3, 1), 0);
        due(y.withWhom(3, 0), 1);
    }

    /** "of like ones the least". */
    static void p14_ofLikeOnesTheLeast() {
        FingerSaysFar x = walkersOf(1, 3, 3, 2);
        due(x.withWhom(3, 0), 1);
        due(x.withWhom(3, 1), 2);
        due(x.withWhom(3, 2), 1);
        due(x.withWhom(3, 3), 1);
        due(x.withWhom(5005, 0), 1);
        due(x.withWhom(5005, 1), 0);
    }

    /** Whoever is faster than he makes him no faster, so they are all like. */
    static void p14_fasterOnesAreLikeOnes() {
        FingerSaysFar x = walkersOf(0, 1, 3, 2);
        due(x.withWhom(3, 0), 1);
        FingerSaysFar y = walkersOf(2, 3, 0);
        due(y.withWhom(3, 2), 0);
    }

    static void p14_theLastOfSix() {
        FingerSaysFar x = walkersOf(3, -2, -2, -2, -2, -1);
        due(x.withWhom(3, 0), 5);
        due(x.withWhom(3, 5), 0);
    }

    // ---- promise 15: "MEET (ft: where the one is, and the other; ab): where (what 0), that (1). BAD."

    static void p15_inOneAndTheSameCell() {
        FingerSaysFar x = two();
        due(x.meet(0, 1, 0), 0);
        due(x.meet(0, 1, 1), 0);
        due(x.meet(143143, 10, 0), 143);
        due(x.meet(143143, 10, 1), 0);
    }

    static void p15_theSameOneTwice() {
        FingerSaysFar x = two();
        due(x.meet(3, 0, 0), BAD);
        due(x.meet(3, 11, 1), BAD);
    }

    static void p15_noSuchWalkers() {
        FingerSaysFar x = two();
        for (int ab : NO_PAIRS) {
            due(x.meet(3, ab, 0), BAD);
        }
        due(walkersOf(1).meet(3, 1, 0), BAD);
    }

    static void p15_noSuchCell() {
        FingerSaysFar x = two();
        for (int ft : NO_CELLS) {
            due(x.meet(ft, 1, 0), BAD);
        }
    }

    static void p15_whatIs0Or1() {
        FingerSaysFar x = two();
        for (int what : new int[] {-1, 2, LEAST, MOST}) {
            due(x.meet(3, 1, what), BAD);
        }
    }

    /** Terms: "of like ones the least". */
    static void p15_ofLikeCellsTheLeast() {
        FingerSaysFar x = two();
        due(x.meet(3, 1, 0), 1);
        due(x.meet(3, 1, 1), 10);
        due(x.meet(3000, 1, 0), 1);
        due(x.meet(26, 1, 0), 2);
        due(x.meet(26, 1, 1), 10);
        due(x.meet(142143, 1, 0), 142);
        due(x.meet(142143, 1, 1), 5);
    }

    static void p15_inTheLastCell() {
        FingerSaysFar x = walkersOf(-9, 9);
        due(x.meet(143000, 1, 0), 131);
        due(x.meet(143142, 1, 0), 143);
        due(x.meet(143142, 1, 1), 1);
    }

    static void p15_theLastTwo() {
        FingerSaysFar x = walkersOf(0, 0, 0, 0, 4, 0);
        due(x.meet(5, 45, 0), 4);
        due(x.meet(5, 45, 1), 5);
        due(x.meet(5, 54, 0), 0);
        due(x.meet(5, 54, 1), 5);
        due(x.meet(5, 46, 0), BAD);
        due(x.meet(5, 64, 0), BAD);
        due(x.meet(5, 55, 0), BAD);
    }

    /** "their minutes to it": each goes there, the one first told from the first CELL. */
    static void p15_minutesToTheCell() {
        FingerSaysFar x = walkersOf(0, 4);
        due(x.meet(5, 1, 0), 0);
        due(x.meet(5, 1, 1), 5);
        due(x.meet(5, 10, 0), 4);
        due(x.meet(5, 10, 1), 5);
        FingerSaysFar y = two();
        for (int i = 0; i < 12; i++) {
            y.mend(12 * i, 0, 9);
        }
        due(y.meet(1, 1, 0), 1);
        due(y.meet(1, 1, 1), 5);
    }

    // ---- promise 16: "CARRY. BAD; NOT."

    /** Terms: "takes t minutes (0 .. 9999) at most". */
    static void p16_justInTime() {
        FingerSaysFar x = two();
        for (int load = 0; load <= 9; load++) {
            due(x.carry(2, 0, 10 + 2 * load), load);
            due(x.carry(2, 0, 11 + 2 * load), load);
        }
        due(x.carry(2, 0, 9999), 9);
    }

    static void p16_not() {
        FingerSaysFar x = two();
        due(x.carry(2, 0, 9), NOT);
        due(x.carry(2, 0, 0), NOT);
        law(x, "99");
        due(x.carry(143, 0, 2177), NOT);
        due(x.carry(143, 0, 2178), 9);
    }

    static void p16_toHisOwnCell() {
        due(two().carry(66066, 0, 0), 9);
    }

    static void p16_tFrom0To9999() {
        FingerSaysFar x = two();
        for (int t : new int[] {-1, 10000, LEAST, MOST}) {
            due(x.carry(2, 0, t), BAD);
            due(x.carry(2002, 0, t), BAD);
        }
    }

    static void p16_noSuchCellOrWalker() {
        FingerSaysFar x = two();
        for (int ft : NO_CELLS) {
            due(x.carry(ft, 0, 9), BAD);
        }
        for (int walker : NO_WALKERS) {
            due(x.carry(2, walker, 9), BAD);
        }
    }

    /** "the greatest LOAD": though lesser ones may take longer. */
    static void p16_theGreatestThoughLesserOnesDoNot() {
        FingerSaysFar x = two();
        law(x, "l=7?2;50");
        due(x.carry(2, 0, 5), 7);
        due(x.carry(2, 0, 3), NOT);
        law(x, "l=0?2;50");
        due(x.carry(2, 0, 5), 0);
    }

    /** The LOAD he has does not count, and stays. */
    static void p16_whateverLoadHeHas() {
        FingerSaysFar x = two();
        x.mend(0, 4, 9);
        due(x.carry(2, 0, 12), 1);
        due(x.of(0, 4), 9);
        due(x.count(3), 1);
    }

    /** Each LOAD has its own shortest way. */
    static void p16_anotherWayForAnotherLoad() {
        FingerSaysFar x = two();
        x.mend(1, 0, 2);
        law(x, "1+u*l*(u>0)");
        due(x.carry(2, 0, 4), 9);
        due(x.carry(2, 0, 3), 0);
    }

    // ---- promise 17: "LIGHT. VOID: BAD."

    static void p17_justInTime() {
        FingerSaysFar x = two();
        for (int heart = -9; heart <= 3; heart++) {
            due(x.light(2, 0, 10 - 2 * heart), heart);
            due(x.light(2, 0, 11 - 2 * heart), heart);
        }
        due(x.light(2, 0, 2), 4);
        due(x.light(2, 0, 9999), -9);
    }

    /** Terms: "NOT (-99)". */
    static void p17_not() {
        FingerSaysFar x = two();
        due(x.light(2, 0, 1), NO_HEART);
        due(x.light(2, 0, 0), NO_HEART);
    }

    static void p17_theLeastAndTheGreatestHeart() {
        FingerSaysFar x = two();
        law(x, "k=9?2;50");
        due(x.light(2, 0, 4), 9);
        law(x, "k=-9?2;50");
        due(x.light(2, 0, 4), -9);
        due(x.light(2, 0, 3), NO_HEART);
    }

    static void p17_toHisOwnCell() {
        due(two().light(66066, 0, 0), -9);
    }

    static void p17_tFrom0To9999() {
        FingerSaysFar x = two();
        for (int t : new int[] {-1, 10000, LEAST, MOST}) {
            due(x.light(2, 0, t), VOID);
            due(x.light(2002, 0, t), VOID);
        }
    }

    static void p17_noSuchCellOrWalker() {
        FingerSaysFar x = two();
        for (int ft : NO_CELLS) {
            due(x.light(ft, 0, 9), VOID);
        }
        for (int walker : NO_WALKERS) {
            due(x.light(2, walker, 9), VOID);
        }
    }

    /** "the least HEART": though greater ones may take longer. */
    static void p17_theLeastThoughGreaterOnesDoNot() {
        FingerSaysFar x = two();
        law(x, "k=-5|k=5?3;50");
        due(x.light(2, 0, 6), -5);
    }

    static void p17_whateverHeartHeHas() {
        FingerSaysFar x = walkersOf(-9, 9);
        due(x.light(2, 0, 8), 1);
        due(x.light(2, 1, 8), 1);
        due(x.of(0, 3), -9);
        due(x.of(1, 3), 9);
        due(x.count(3), 0);
    }

    // ---- promise 18: "BACK (other: the CELL thought of). BAD; NOT."

    /** Terms: "(0 .. all steps)". */
    static void p18_behindAllSteps() {
        FingerSaysFar x = two();
        due(x.backFrom(6, 0, 6), 6);
        due(x.backFrom(143, 0, 143), 22);
        due(x.backFrom(4004, 0, 4), 0);
    }

    static void p18_justAtFirst() {
        FingerSaysFar x = two();
        due(x.backFrom(6, 0, 72), 0);
        due(x.backFrom(6000, 0, 78), 0);
    }

    /** "NOT: not even at first". */
    static void p18_notEvenAtFirst() {
        FingerSaysFar x = two();
        due(x.backFrom(6, 0, 84), NOT);
        due(x.backFrom(6, 0, 7), NOT);
        due(x.backFrom(4004, 0, 5), NOT);
    }

    /** "still no more minutes": as many are no more. */
    static void p18_asManyMinutesAreNoMore() {
        FingerSaysFar x = two();
        due(x.backFrom(6, 0, 0), 3);
        due(x.backFrom(5, 0, 0), 2);
        due(x.backFrom(1, 0, 0), 0);
        due(x.backFrom(2, 0, 0), 1);
        due(x.backFrom(6, 0, 5), 5);
    }

    /** Minutes from where he is: back up is dearer than on. */
    static void p18_minutesFromThere() {
        FingerSaysFar x = two();
        for (int y = 0; y < 12; y++) {
            x.mend(12 * y, 0, 9);
        }
        due(x.backFrom(6, 0, 0), 0);
        x.undo();
        for (int y = 0; y < 11; y++) {
            x.undo();
        }
        due(x.backFrom(6, 0, 0), 3);
        for (int y = 0; y < 12; y++) {
            x.mend(12 * y + 6, 0, 1);
        }
        due(x.backFrom(6, 0, 0), 3);
        due(x.backFrom(5, 0, 0), 2);
        due(x.backFrom(7, 0, 0), 3);
        for (int y = 0; y < 12; y++) {
            x.mend(12 * y + 6, 0, 4);
        }
        due(x.backFrom(6, 0, 0), 4);
    }

    static void p18_noSuchOther() {
        FingerSaysFar x = two();
        for (int other : new int[] {-1, 144, LEAST, MOST}) {
            due(x.backFrom(6, 0, other), BAD);
        }
        due(x.backFrom(6, 0, 143), NOT);
    }

    static void p18_noSuchCellOrWalker() {
        FingerSaysFar x = two();
        for (int ft : NO_CELLS) {
            due(x.backFrom(ft, 0, 0), BAD);
        }
        for (int walker : NO_WALKERS) {
            due(x.backFrom(6, walker, 0), BAD);
        }
    }

    static void p18_badIsAheadOfNot() {
        FingerSaysFar x = two();
        due(x.backFrom(4004, 2, 5), BAD);
        due(x.backFrom(4144, 0, 5), BAD);
    }

    // ---- promise 19: "A ROUND of one (cs: 1000 times the CELL, and the set): minutes (k -1), the k-th POST"

    private static FingerSaysFar postsIn(int... cells) {
        FingerSaysFar x = two();
        for (int cell : cells) {
            x.post(1000 * cell + 99);
        }
        return x;
    }

    static void p19_anEmptySet() {
        FingerSaysFar x = postsIn(5);
        due(x.round(66000, 0, -1), 0);
        due(x.round(66000, 0, 0), NOT);
        due(two().round(0, 0, -1), 0);
    }

    static void p19_onePost() {
        FingerSaysFar x = postsIn(5, 0);
        due(x.round(1, 0, -1), 50);
        due(x.round(1, 0, 0), 0);
        due(x.round(1, 0, 1), NOT);
        due(x.round(2, 0, -1), 0);
        due(x.round(2, 0, 0), 1);
    }

    /** Terms: "(5 at most, else STATE)". */
    static void p19_fiveAtMost() {
        FingerSaysFar x = postsIn(1, 2, 3, 4, 5, 6, 7, 8);
        due(x.round(31, 0, -1), 50);
        due(x.round(31, 0, 4), 4);
        due(x.round(248, 0, -1), 80);
        due(x.round(248, 0, 4), 7);
        due(x.round(63, 0, -1), STATE);
        due(x.round(252, 0, 0), STATE);
        due(x.round(127, 0, -1), STATE);
        due(x.round(255, 0, -1), STATE);
    }

    /** "STATE (here ahead of NOT)". */
    static void p19_stateIsAheadOfNot() {
        FingerSaysFar x = postsIn(1, 2, 3, 4, 5, 6);
        due(x.round(63, 0, 6), STATE);
        due(x.round(63, 0, MOST), STATE);
    }

    static void p19_badIsAheadOfState() {
        FingerSaysFar x = postsIn(1, 2, 3, 4, 5, 6);
        due(x.round(63, 0, -2), BAD);
        due(x.round(63, 2, -1), BAD);
        due(x.round(144063, 0, -1), BAD);
        due(x.round(127, 0, -1), BAD);
        due(x.round(255, 0, -1), BAD);
    }

    static void p19_badIsAheadOfNot() {
        FingerSaysFar x = postsIn(1);
        due(x.round(1, 2, 1), BAD);
        due(x.round(2, 0, 9), BAD);
        due(x.round(144001, 0, 1), BAD);
    }

    /** "(NOT: there are not as many)". */
    static void p19_notAsManyPosts() {
        FingerSaysFar x = postsIn(1, 2, 3);
        due(x.round(7, 0, 2), 2);
        due(x.round(7, 0, 3), NOT);
        due(x.round(7, 0, MOST), NOT);
        due(x.round(5, 0, 2), NOT);
    }

    static void p19_kBelowMinus1() {
        FingerSaysFar x = postsIn(1);
        due(x.round(1, 0, -2), BAD);
        due(x.round(1, 0, LEAST), BAD);
    }

    static void p19_noSuchPostInTheSet() {
        FingerSaysFar x = postsIn(1, 2);
        due(x.round(3, 0, -1), 20);
        for (int set : new int[] {4, 5, 128, 255, 256, 512, 999}) {
            due(x.round(set, 0, -1), BAD);
        }
        due(two().round(1, 0, -1), BAD);
        FingerSaysFar full = postsIn(1, 1, 1, 1, 1, 1, 1, 1);
        due(full.round(128, 0, -1), 10);
        due(full.round(256, 0, -1), BAD);
        due(full.round(999, 0, -1), BAD);
    }

    static void p19_noSuchCellOrWalker() {
        FingerSaysFar x = postsIn(1);
        for (int cs : new int[] {144000, 144001, 1000001, -1, -1000, LEAST, MOST}) {
            due(x.round(cs, 0, -1), BAD);
        }
        for (int walker : NO_WALKERS) {
            due(x.round(1, walker, -1), BAD);
        }
        due(x.round(143001, 1, -1), 210);
    }

    /** "of like ones the first by numbers". */
    static void p19_ofLikeRoundsTheFirstByNumbers() {
        FingerSaysFar x = postsIn(5, 3, 1);
        for (int k = 0; k < 3; k++) {
            due(x.round(7, 0, k), k);
        }
        FingerSaysFar ring = postsIn(26, 24, 2);
        due(ring.round(7, 0, -1), 40);
        due(ring.round(7, 0, 0), 1);
        due(ring.round(7, 0, 1), 0);
        due(ring.round(7, 0, 2), 2);
    }

    static void p19_postsInOneCell() {
        FingerSaysFar x = postsIn(3, 1, 3);
        due(x.round(2005, 0, -1), 10);
        due(x.round(2005, 0, 0), 0);
        due(x.round(2005, 0, 1), 2);
    }

    static void p19_whereHeBegins() {
        FingerSaysFar x = postsIn(7, 9);
        due(x.round(7003, 0, -1), 20);
        due(x.round(7003, 0, 0), 0);
        due(x.round(7001, 0, -1), 0);
    }

    /** "and back to it": there and back take unlike minutes, and so does a round the other way about. */
    static void p19_unlikeMinutesThereAndBack() {
        FingerSaysFar x = paths();
        law(x, "u=1|u=2?1;u=-3?1;50");
        heights(x, 1, 1);
        heights(x, 3, 13);
        heights(x, 6, 12);
        posts(x, 1099, 13099, 12099);
        due(x.round(3, 0, -1), 1 + 1 + 50 + 50);
        due(x.round(3, 0, 0), 0);
        FingerSaysFar y = two();
        law(y, "u=2|u=3|u=4?1;u=-9?1;50");
        heights(y, 2, 12);
        heights(y, 5, 13);
        heights(y, 9, 1);
        posts(y, 1099, 12099, 13099);
        due(y.round(7, 0, -1), 4);
        due(y.round(7, 0, 0), 1);
        due(y.round(7, 0, 1), 2);
        due(y.round(7, 0, 2), 0);
    }
}
