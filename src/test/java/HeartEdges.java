/** Promises 20 to 29, hearts from arms: a test for each sentence that names a boundary case. */
final class HeartEdges extends Checks {
    /** Told as aw where there are one post and two walkers. */
    private static final int[] NO_ARMS = {2, 6, 9, 10, 11, 80, -1, -9, -10, LEAST, MOST};
    private static final int[] NO_WALKERS = {-1, 2, 5, 6, LEAST, MOST};
    private static final int[] NO_WHATS = {-1, 2, LEAST, MOST};
    private static final int[] NO_MINUTES = {-1, 10000, LEAST, MOST};
    private static final int[] NO_SHELVES = {-1, 6, LEAST, MOST};

    /** Posts 0 .. 7 of as many steps, and walkers 0 .. 5 whose load is their number. */
    private static FingerSaysFar allPostsAndWalkers() {
        FingerSaysFar x = walkersOf(0, 0, 0, 0, 0, 0);
        posts(x, 0, 1, 2, 3, 4, 5, 6, 7);
        for (int walker = 0; walker < 6; walker++) {
            x.mend(walker, 4, walker);
        }
        return x;
    }

    /** One post of three steps, and two walkers of heart 2. */
    private static FingerSaysFar threeSteps() {
        FingerSaysFar x = walkersOf(2, 2);
        x.post(3);
        return x;
    }

    private static FingerSaysFar stump() {
        FingerSaysFar x = walkersOf(2, 2);
        x.post(66066);
        return x;
    }

    // ---- promise 20: "HEARTS: how many (what 0), the least (1). VOID: BAD."

    /** Terms: "by how many HEARTS (-9 .. 9)": both ends count. */
    static void p20_heartsGoFromMinus9To9() {
        FingerSaysFar x = threeSteps();
        due(x.hearts(0, 3 * 14, 0), 1);
        due(x.hearts(0, 3 * 14, 1), -9);
        due(x.hearts(0, 3 * 15, 0), 0);
        x.mend(0, 4, 9);
        due(x.hearts(0, 3 * 5, 0), 1);
        due(x.hearts(0, 3 * 5, 1), 9);
        due(x.hearts(0, 3 * 4, 0), 0);
        due(x.hearts(0, 3 * 23, 1), -9);
        due(x.hearts(0, 3 * 24, 1), NO_HEART);
    }

    static void p20_allHearts() {
        FingerSaysFar x = stump();
        due(x.hearts(0, 0, 0), 19);
        due(x.hearts(0, 0, 1), -9);
        due(x.hearts(1, 1, 0), 0);
    }

    static void p20_theLeastOfSeveral() {
        FingerSaysFar x = threeSteps();
        due(x.hearts(0, 3, 0), 6);
        due(x.hearts(0, 3, 1), 4);
        law(x, "k*k");
        due(x.hearts(0, 3 * 25, 0), 2);
        due(x.hearts(0, 3 * 25, 1), -5);
        due(x.hearts(0, 3, 0), 3);
        due(x.hearts(0, 3, 1), -1);
    }

    /** Terms: "(-99: NOT)". */
    static void p20_not() {
        FingerSaysFar x = threeSteps();
        due(x.hearts(0, 16, 0), 0);
        due(x.hearts(0, 16, 1), NO_HEART);
        due(x.hearts(0, 0, 1), NO_HEART);
    }

    /** Terms: "a minutes (0 .. 9999)". */
    static void p20_aFrom0To9999() {
        FingerSaysFar x = threeSteps();
        due(x.hearts(0, 0, 0), 0);
        due(x.hearts(0, 9999, 0), 0);
        due(x.hearts(0, 9999, 1), NO_HEART);
        for (int a : NO_MINUTES) {
            due(x.hearts(0, a, 0), VOID);
            due(x.hearts(0, a, 1), VOID);
        }
    }

    static void p20_whatIs0Or1() {
        FingerSaysFar x = threeSteps();
        for (int what : NO_WHATS) {
            due(x.hearts(0, 15, what), VOID);
        }
    }

    static void p20_noSuchPostOrWalker() {
        FingerSaysFar x = threeSteps();
        for (int aw : NO_ARMS) {
            due(x.hearts(aw, 15, 0), VOID);
        }
    }

    static void p20_everyPostAndWalker() {
        FingerSaysFar x = allPostsAndWalkers();
        for (int post = 1; post < 8; post++) {
            for (int walker = 0; walker < 6; walker++) {
                due(x.hearts(10 * post + walker, 10 * post, 1), walker - 5);
                due(x.hearts(10 * post + walker, 10 * post, 0), 1);
            }
        }
        for (int aw : new int[] {6, 76, 80, 85}) {
            due(x.hearts(aw, 0, 0), VOID);
        }
    }

    /** "(all else as he is)": his LOAD and SHOES count, his HEART does not, and all stays. */
    static void p20_allElseAsHeIs() {
        FingerSaysFar x = threeSteps();
        x.mend(1, 4, 3);
        x.mend(1, 5, 4);
        x.mend(1, 3, -8);
        due(x.hearts(1, 3 * 9, 1), 0);
        due(x.hearts(0, 3 * 9, 1), -4);
        due(x.of(1, 3), -8);
        due(x.of(1, 4), 3);
        due(x.arm(1), 3 * 17);
    }

    // ---- promise 21: "HEARTS and LOADS: how many pairs. BAD."

    /** Terms: "pairs of both (-9 .. 9, 0 .. 9)". */
    static void p21_theFirstAndTheLastPair() {
        FingerSaysFar x = threeSteps();
        due(x.pairs(0, 3 * 23), 1);
        due(x.pairs(0, 3 * 24), 0);
        law(x, "k=9&l=9?7;k=-9&l=0?8;k=9&l=0?9;k=-9&l=9?10;1");
        due(x.pairs(0, 21), 1);
        due(x.pairs(0, 24), 1);
        due(x.pairs(0, 27), 1);
        due(x.pairs(0, 30), 1);
        due(x.pairs(0, 3), 186);
    }

    static void p21_allPairs() {
        due(stump().pairs(0, 0), 190);
        due(stump().pairs(1, 1), 0);
    }

    static void p21_aFrom0To9999() {
        FingerSaysFar x = threeSteps();
        due(x.pairs(0, 0), 0);
        due(x.pairs(0, 9999), 0);
        for (int a : NO_MINUTES) {
            due(x.pairs(0, a), BAD);
        }
    }

    static void p21_noSuchPostOrWalker() {
        FingerSaysFar x = threeSteps();
        for (int aw : NO_ARMS) {
            due(x.pairs(aw, 15), BAD);
        }
    }

    static void p21_everyPostAndWalker() {
        FingerSaysFar x = allPostsAndWalkers();
        for (int walker = 0; walker < 6; walker++) {
            x.mend(walker, 5, walker + 1);
        }
        // of shoes s the slowest pair takes 28 - s minutes a step
        for (int post = 1; post < 8; post++) {
            for (int walker = 0; walker < 6; walker++) {
                due(x.pairs(10 * post + walker, post * (27 - walker)), 1);
                due(x.pairs(10 * post + walker, post * (28 - walker)), 0);
            }
        }
        for (int aw : new int[] {6, 76, 80, 85}) {
            due(x.pairs(aw, 0), BAD);
        }
    }

    static void p21_whateverHeartAndLoadHeHas() {
        FingerSaysFar x = threeSteps();
        due(x.pairs(0, 15), 10);
        x.mend(0, 3, -9);
        x.mend(0, 4, 9);
        due(x.pairs(0, 15), 10);
        due(x.of(0, 3), -9);
        due(x.of(0, 4), 9);
        x.mend(0, 5, 9);
        due(x.pairs(0, 3 * 19), 1);
    }

    // ---- promise 22: "NEXT POST: which (what 0), that number (1). BAD; NOT."

    /** Terms: "NOT: no POSTS". */
    static void p22_noPosts() {
        FingerSaysFar x = walkersOf(0);
        due(x.next(0, 0), NOT);
        due(x.next(0, 1), NOT);
    }

    static void p22_badIsAheadOfNot() {
        FingerSaysFar x = walkersOf(0, 0);
        for (int walker : NO_WALKERS) {
            due(x.next(walker, 0), BAD);
        }
        for (int what : NO_WHATS) {
            due(x.next(0, what), BAD);
        }
        due(new FingerSaysFar().next(0, 0), BAD);
    }

    static void p22_noSuchWalkerOrWhat() {
        FingerSaysFar x = threeSteps();
        for (int walker : NO_WALKERS) {
            due(x.next(walker, 1), BAD);
        }
        for (int what : NO_WHATS) {
            due(x.next(1, what), BAD);
        }
    }

    /** All 19 HEARTS with one and the same ARM. */
    static void p22_aPostThatPartsNobody() {
        FingerSaysFar x = stump();
        due(x.next(0, 0), 0);
        due(x.next(0, 1), 19);
    }

    /** Every HEART with an ARM of its own. */
    static void p22_aPostThatPartsAll() {
        FingerSaysFar x = stump();
        x.post(1);
        x.mend(0, 4, 5);
        due(x.next(0, 0), 1);
        due(x.next(0, 1), 1);
    }

    /** "of like ones the least". */
    static void p22_ofLikePostsTheLeast() {
        FingerSaysFar x = stump();
        posts(x, 1, 7, 143);
        due(x.next(0, 0), 1);
        due(x.next(0, 1), 6);
        x.mend(0, 1, 5);
        due(x.next(0, 0), 0);
        due(x.next(0, 1), 6);
    }

    /** "the greatest number of HEARTS with one and the same ARM", not how many ARMS there are. */
    static void p22_theGreatestNumberCounts() {
        FingerSaysFar x = walkersOf(0);
        // 9 and 10 hearts by two arms, or 12 by one arm and 7 by arms of their own
        law(x, "h=1&k<0?10;h=1?20;k<3?30;40+k");
        heights(x, 1, 1);
        posts(x, 12000 + 24, 1);
        due(x.next(0, 1), 10);
        due(x.next(0, 0), 1);
    }

    /** The least and the greatest HEART are among those that are counted. */
    static void p22_heartsGoFromMinus9To9() {
        FingerSaysFar x = threeSteps();
        law(x, "k<-6?1;20+k");
        due(x.next(0, 1), 3);
        law(x, "k>6?1;20+k");
        due(x.next(0, 1), 3);
        law(x, "k*k=81?1;20+k");
        due(x.next(0, 1), 2);
        law(x, "20+k");
        due(x.next(0, 1), 1);
    }

    static void p22_theLastOfEightPosts() {
        FingerSaysFar x = walkersOf(0);
        posts(x, 0, 0, 0, 0, 0, 0, 0, 1);
        due(x.next(0, 0), 7);
    }

    static void p22_whateverHeartHeHas() {
        FingerSaysFar x = threeSteps();
        due(x.next(0, 1), 6);
        x.mend(0, 3, -9);
        due(x.next(0, 1), 6);
        due(x.of(0, 3), -9);
        x.mend(0, 5, 9);
        due(x.next(0, 1), 10);
    }

    // ---- promise 23: "WEATHERS (t 0 .. 9999): bits. BAD."

    /** Terms: "(bits 0 .. 9)", "t minutes at most". */
    static void p23_justInTime() {
        FingerSaysFar x = threeSteps();
        for (int weather = 0; weather <= 9; weather++) {
            due(x.weathers(0, 9 + 3 * weather), (2 << weather) - 1);
            due(x.weathers(0, 11 + 3 * weather), (2 << weather) - 1);
        }
    }

    static void p23_noneAndAll() {
        FingerSaysFar x = threeSteps();
        due(x.weathers(0, 8), 0);
        due(x.weathers(0, 0), 0);
        due(x.weathers(0, 36), 1023);
        due(x.weathers(0, 9999), 1023);
        due(stump().weathers(0, 0), 1023);
    }

    static void p23_bitsOfTheFirstAndTheLast() {
        FingerSaysFar x = threeSteps();
        law(x, "w=0|w=9?1;50");
        due(x.weathers(0, 3), 513);
        law(x, "w=4?1;50");
        due(x.weathers(0, 3), 16);
    }

    static void p23_tFrom0To9999() {
        FingerSaysFar x = stump();
        for (int t : NO_MINUTES) {
            due(x.weathers(0, t), BAD);
        }
    }

    static void p23_noSuchPostOrWalker() {
        FingerSaysFar x = threeSteps();
        for (int aw : NO_ARMS) {
            due(x.weathers(aw, 15), BAD);
        }
    }

    static void p23_everyPostAndWalker() {
        FingerSaysFar x = allPostsAndWalkers();
        for (int post = 1; post < 8; post++) {
            for (int walker = 0; walker < 6; walker++) {
                due(x.weathers(10 * post + walker, 10 * post), (1 << 6 - walker) - 1);
            }
        }
        for (int aw : new int[] {6, 76, 80, 85}) {
            due(x.weathers(aw, 0), BAD);
        }
    }

    static void p23_whateverWeatherItIs() {
        FingerSaysFar x = threeSteps();
        x.mend(0, 6, 9);
        due(x.weathers(0, 12), 3);
        due(x.of(0, 6), 9);
        due(x.arm(0), 36);
    }

    // ---- promise 24: "JUDGED (a BOOK; no ROW of shorts: -12). BAD, -11, -12; NOT."

    /** Posts 0, 1, 2 of 2, 3 and 0 steps; walkers 0 and 2 take 5 minutes a step, walker 1 takes 3. */
    private static FingerSaysFar withBook(long... values) {
        FingerSaysFar x = walkersOf(0, 2, 0);
        posts(x, 2, 3, 66066);
        row(x, 0, SHORTS, values);
        return x;
    }

    static void p24_noSuchShelf() {
        FingerSaysFar x = withBook();
        for (int shelf : NO_SHELVES) {
            due(x.judge(shelf, 0), BAD);
        }
        x.row(5, SHORTS, 0);
        due(x.judge(5, 0), NOT);
    }

    static void p24_noSuchWalker() {
        FingerSaysFar x = withBook();
        for (int walker : new int[] {-1, 3, 6, LEAST, MOST}) {
            due(x.judge(0, walker), BAD);
        }
        due(new FingerSaysFar().judge(0, 0), BAD);
    }

    static void p24_nothingThere() {
        FingerSaysFar x = withBook();
        due(x.judge(1, 0), NOTHING);
        x.keep(0, -1);
        due(x.judge(0, 0), NOTHING);
    }

    static void p24_noRowOfShorts() {
        FingerSaysFar x = withBook();
        for (int sort : new int[] {BYTES, INTS, LONGS, BOOLEANS}) {
            x.row(0, sort, 0);
            due(x.judge(0, 0), KIND);
        }
        x.body(0);
        x.keep(0, 0);
        due(x.judge(0, 0), KIND);
    }

    static void p24_badIsAheadOfTheRefusals() {
        FingerSaysFar x = withBook();
        due(x.judge(1, 3), BAD);
        x.row(1, INTS, 2);
        due(x.judge(1, 3), BAD);
    }

    /** An empty book: no two is not so. */
    static void p24_anEmptyBook() {
        due(withBook().judge(0, 0), NOT);
    }

    static void p24_allIsSo() {
        FingerSaysFar x = withBook(0, 10, 1, 15, 2, 0, 0, 10);
        due(x.judge(0, 0), NOT);
        due(x.judge(0, 2), NOT);
    }

    /** Terms: "the first two that is not so": counted by twos, from 0. */
    static void p24_theFirstTwoThatIsNotSo() {
        due(withBook(0, 11, 1, 16).judge(0, 0), 0);
        due(withBook(0, 10, 1, 16, 0, 11).judge(0, 0), 1);
        due(withBook(0, 10, 1, 15, 2, 1).judge(0, 0), 2);
        due(withBook(0, 9).judge(0, 0), 0);
        due(withBook(0, 10).judge(0, 1), 0);
        due(withBook(0, 10, 0, 11).judge(0, 0), 1);
    }

    /** "(none such ..)": a POST that is not there. */
    static void p24_noSuchPost() {
        due(withBook(3, 0).judge(0, 0), 0);
        due(withBook(0, 10, -1, 0).judge(0, 0), 1);
        due(withBook(2, 0, 8, 0).judge(0, 0), 1);
        due(withBook(32767, 0).judge(0, 0), 0);
        due(withBook(-32768, 0).judge(0, 0), 0);
        FingerSaysFar nothing = walkersOf(0);
        row(nothing, 0, SHORTS, 0, 0);
        due(nothing.judge(0, 0), 0);
    }

    /** "(.. lacking, too)": a POST behind which nothing is told. */
    static void p24_aTwoThatLacks() {
        due(withBook(0).judge(0, 0), 0);
        due(withBook(2).judge(0, 0), 0);
        due(withBook(0, 10, 2).judge(0, 0), 1);
        due(withBook(0, 11, 2).judge(0, 0), 0);
    }

    /** A shorter book laid where a longer one was lacks what stood behind it. */
    static void p24_aShorterBook() {
        FingerSaysFar x = withBook(0, 10, 1, 16);
        row(x, 0, SHORTS, 0, 10);
        due(x.judge(0, 0), NOT);
        row(x, 0, SHORTS, 0, 10, 2);
        due(x.judge(0, 0), 1);
    }

    /** What is told below 0 is no ARM; shorts keep their lowest bits. */
    static void p24_shortsThatWrap() {
        due(withBook(2, -1).judge(0, 0), 0);
        due(withBook(0, 10 + 65536).judge(0, 0), NOT);
        due(withBook(65536, 10).judge(0, 0), NOT);
        due(withBook(0, 10 + 32768).judge(0, 0), 0);
    }

    static void p24_aBookOf60() {
        FingerSaysFar x = walkersOf(0);
        x.post(0);
        x.row(0, SHORTS, 60);
        due(x.judge(0, 0), NOT);
        x.put(0, 59, 1);
        due(x.judge(0, 0), 29);
        x.row(0, SHORTS, 59);
        due(x.judge(0, 0), 29);
    }

    // ---- promise 25: "BY HEART: how many (what 0), the least (1). VOID: BAD, no ROW of shorts."

    static void p25_noSuchShelf() {
        FingerSaysFar x = withBook();
        for (int shelf : NO_SHELVES) {
            due(x.byHeart(shelf, 0, 0), VOID);
        }
        x.row(5, SHORTS, 0);
        due(x.byHeart(5, 0, 0), 19);
    }

    static void p25_noSuchWalkerOrWhat() {
        FingerSaysFar x = withBook();
        for (int walker : new int[] {-1, 3, 6, LEAST, MOST}) {
            due(x.byHeart(0, walker, 0), VOID);
        }
        for (int what : NO_WHATS) {
            due(x.byHeart(0, 0, what), VOID);
        }
    }

    static void p25_noRowOfShorts() {
        FingerSaysFar x = withBook();
        due(x.byHeart(1, 0, 0), VOID);
        for (int sort : new int[] {BYTES, INTS, LONGS, BOOLEANS}) {
            x.row(0, sort, 0);
            due(x.byHeart(0, 0, 0), VOID);
            due(x.byHeart(0, 0, 1), VOID);
        }
        x.body(0);
        x.keep(0, 0);
        due(x.byHeart(0, 0, 0), VOID);
    }

    static void p25_anEmptyBook() {
        FingerSaysFar x = withBook();
        due(x.byHeart(0, 1, 0), 19);
        due(x.byHeart(0, 1, 1), -9);
    }

    static void p25_heartsGoFromMinus9To9() {
        due(withBook(0, 28).byHeart(0, 0, 0), 1);
        due(withBook(0, 28).byHeart(0, 0, 1), -9);
        FingerSaysFar x = withBook(0, 10);
        x.mend(0, 4, 9);
        due(x.byHeart(0, 0, 0), 1);
        due(x.byHeart(0, 0, 1), 9);
    }

    static void p25_theLeastOfSeveral() {
        FingerSaysFar x = withBook(0, 2, 1, 3, 2, 0);
        due(x.byHeart(0, 0, 0), 6);
        due(x.byHeart(0, 0, 1), 4);
    }

    /** Terms: "(-99: NOT)". */
    static void p25_not() {
        due(withBook(0, 11).byHeart(0, 0, 0), 0);
        due(withBook(0, 11).byHeart(0, 0, 1), NO_HEART);
        due(withBook(0, 10, 1, 18).byHeart(0, 0, 0), 0);
        due(withBook(0, 10, 1).byHeart(0, 0, 1), NO_HEART);
        due(withBook(0, 10, 3, 0).byHeart(0, 0, 1), NO_HEART);
    }

    static void p25_whateverHeartHeHas() {
        FingerSaysFar x = withBook(0, 10);
        due(x.byHeart(0, 1, 1), 0);
        due(x.of(1, 3), 2);
        x.mend(1, 5, 4);
        due(x.byHeart(0, 1, 1), 1);
    }

    // ---- promise 26: "WHOSE: bits. BAD, -11, -12."

    static void p26_noSuchShelf() {
        FingerSaysFar x = withBook();
        for (int shelf : NO_SHELVES) {
            due(x.whose(shelf), BAD);
        }
        x.row(5, SHORTS, 0);
        due(x.whose(5), 7);
    }

    static void p26_nothingThere() {
        due(withBook().whose(1), NOTHING);
        due(new FingerSaysFar().whose(0), NOTHING);
    }

    static void p26_noRowOfShorts() {
        FingerSaysFar x = withBook();
        for (int sort : new int[] {BYTES, INTS, LONGS, BOOLEANS}) {
            x.row(0, sort, 0);
            due(x.whose(0), KIND);
        }
        x.body(0);
        x.keep(0, 0);
        due(x.whose(0), KIND);
    }

    static void p26_anEmptyBookIsEverybodys() {
        due(withBook().whose(0), 7);
        FingerSaysFar six = walkersOf(0, 1, 2, 3, 4, 5);
        six.row(0, SHORTS, 0);
        due(six.whose(0), 63);
    }

    static void p26_nobodyIsThere() {
        FingerSaysFar x = new FingerSaysFar();
        x.row(0, SHORTS, 0);
        due(x.whose(0), 0);
    }

    static void p26_bits() {
        due(withBook(0, 10, 1, 15).whose(0), 5);
        due(withBook(0, 6).whose(0), 2);
        due(withBook(0, 7).whose(0), 0);
        due(withBook(2, 0).whose(0), 7);
        due(withBook(0, 10, 1).whose(0), 0);
        due(withBook(3, 0).whose(0), 0);
    }

    // ---- promise 27: "STUMP: bits."

    static void p27_noPosts() {
        due(new FingerSaysFar().stumps(), 0);
    }

    /** Terms: "(they point to their own CELL)": whoever is there, or nobody. */
    static void p27_bitsFrom0To7() {
        FingerSaysFar x = new FingerSaysFar();
        posts(x, 0, 1, 1001, 1000, 143143, 143, 12012, 77077);
        due(x.stumps(), 1 + 4 + 16 + 64 + 128);
    }

    static void p27_mended() {
        FingerSaysFar x = new FingerSaysFar();
        posts(x, 5, 6);
        due(x.stumps(), 0);
        x.mend(1, 1, 6);
        due(x.stumps(), 2);
        x.mend(0, 2, 0);
        due(x.stumps(), 3);
        x.undo();
        due(x.stumps(), 2);
    }

    // ---- promise 28: "LONGEST for one (what 0; NOT), SUM (1). BAD."

    /** Terms: "NOT: no POSTS"; their SUM is 0. */
    static void p28_noPosts() {
        FingerSaysFar x = walkersOf(0);
        due(x.longest(0, 0), NOT);
        due(x.longest(0, 1), 0);
    }

    static void p28_badIsAheadOfNot() {
        FingerSaysFar x = walkersOf(0, 0);
        for (int walker : NO_WALKERS) {
            due(x.longest(walker, 0), BAD);
            due(x.longest(walker, 1), BAD);
        }
        for (int what : NO_WHATS) {
            due(x.longest(0, what), BAD);
        }
    }

    /** "of like ones the least". */
    static void p28_ofLikePostsTheLeast() {
        FingerSaysFar x = walkersOf(0, 1);
        posts(x, 66066, 3, 1004, 143140);
        due(x.longest(0, 0), 1);
        due(x.longest(0, 1), 45);
        due(x.longest(1, 1), 36);
    }

    static void p28_stumpsAlone() {
        FingerSaysFar x = walkersOf(0);
        posts(x, 5005, 6006);
        due(x.longest(0, 0), 0);
        due(x.longest(0, 1), 0);
    }

    static void p28_theLastOfEightPosts() {
        FingerSaysFar x = walkersOf(0);
        posts(x, 1, 2, 3, 4, 5, 6, 7, 8);
        due(x.longest(0, 0), 7);
        due(x.longest(0, 1), 36 * 5);
    }

    static void p28_theGreatestSum() {
        FingerSaysFar x = walkersOf(0);
        law(x, "99");
        posts(x, 143, 143, 143, 143, 143, 143, 143, 143);
        due(x.longest(0, 0), 0);
        due(x.longest(0, 1), 8 * 22 * 99);
    }

    // ---- promise 29: "DRAWN: all together (what 0), the shortest (1). BAD."

    /** Terms: "n strangers (1 .. 50)". */
    static void p29_nFrom1To50() {
        FingerSaysFar x = walkersOf(0);
        x.post(1);
        for (int n : new int[] {0, -1, 51, LEAST, MOST}) {
            due(x.drawn(7, n, 0), BAD);
            due(x.drawn(7, n, 1), BAD);
        }
        law(x, "1");
        due(x.drawn(7, 1, 0), 1);
        due(x.drawn(7, 50, 0), 50);
        due(x.drawn(7, 50, 1), 1);
    }

    static void p29_whatIs0Or1() {
        FingerSaysFar x = walkersOf(0);
        x.post(1);
        for (int what : NO_WHATS) {
            due(x.drawn(7, 1, what), BAD);
        }
    }

    /** "(none: nothing)", "(0: nobody)". */
    static void p29_noPosts() {
        FingerSaysFar x = new FingerSaysFar();
        due(x.drawn(7, 50, 0), 0);
        due(x.drawn(7, 50, 1), 0);
        due(x.drawn(LEAST, 1, 1), 0);
    }

    static void p29_badIsAheadOfNoPosts() {
        FingerSaysFar x = new FingerSaysFar();
        due(x.drawn(7, 0, 0), BAD);
        due(x.drawn(7, 51, 1), BAD);
        due(x.drawn(7, 1, 2), BAD);
    }

    /** "an int", "ahead of each", ">>>": seeds by which z wraps and is below 0, held against the words. */
    static void p29_everySeed() {
        int[] seeds = {0, 1, -1, 5, LEAST, MOST, -123456789, 1103515245};
        for (int seed : seeds) {
            FingerSaysFar x = new FingerSaysFar();
            posts(x, 2, 5, 1);
            x.mend(0, 6, 2);
            int z = seed;
            int sum = 0;
            int least = MOST;
            for (int n = 1; n <= 50; n++) {
                z = z * 1103515245 + 12345;
                int heart = (int) ((z & 0xFFFFFFFFL) / 256 % 19) - 9;
                int load = (int) ((z & 0xFFFFFFFFL) / 65536 % 10);
                int post = (int) ((z & 0xFFFFFFFFL) / 1048576 % 3);
                int arm = Math.max(1, 10 + load + 2 - heart - 5) * (post == 0 ? 2 : post == 1 ? 5 : 1);
                sum += arm;
                least = Math.min(least, arm);
                due(x.drawn(seed, n, 0), sum);
                due(x.drawn(seed, n, 1), least);
            }
        }
    }

    /** The first of seed 0: z is 12345, so HEART 48 % 19 - 9 = 1, LOAD 0, POST 0. */
    static void p29_theFirstOfSeed0() {
        FingerSaysFar x = new FingerSaysFar();
        posts(x, 3, 9);
        due(x.drawn(0, 1, 0), 3 * (10 - 1 - 5));
        due(x.drawn(0, 1, 1), 3 * (10 - 1 - 5));
    }

    static void p29_strangersAreNoWalkers() {
        FingerSaysFar x = walkersOf(3);
        posts(x, 3);
        x.drawn(1, 50, 0);
        due(x.count(1), 1);
        due(x.of(0, 3), 3);
        due(x.of(0, 8), 0);
        due(x.led(0), 0);
    }

    static void p29_shortestIs0ByAStump() {
        FingerSaysFar x = new FingerSaysFar();
        x.post(66066);
        due(x.drawn(3, 50, 0), 0);
        due(x.drawn(3, 50, 1), 0);
    }
}
