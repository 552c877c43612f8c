/** Promises 1 to 6, and what Terms say of the moor: a test for each sentence that names a boundary case. */
final class MoorEdges extends Checks {

    // ---- promise 1: "A flat moor, no posts, nobody."

    /** Terms: "each of a HEIGHT (0 .. 9; 0 at first)". */
    static void p01_everyCellIsFlatAtFirst() {
        FingerSaysFar x = new FingerSaysFar();
        for (int cell = 0; cell < 144; cell++) {
            due(x.of(cell, 0), 0);
        }
    }

    static void p01_nobodyAndNoPostsAtFirst() {
        FingerSaysFar x = new FingerSaysFar();
        for (int what = 0; what <= 5; what++) {
            due(x.count(what), 0);
        }
        due(x.of(0, 1), VOID);
        due(x.of(0, 3), VOID);
    }

    /** Terms: "WEATHER (0 .. 9; 0 at first)". */
    static void p01_weatherIs0AtFirst() {
        due(new FingerSaysFar().of(0, 6), 0);
    }

    /** Terms: "SHELVES 0 .. 5 each hold nothing (at first)". */
    static void p01_shelvesHoldNothingAtFirst() {
        FingerSaysFar x = new FingerSaysFar();
        for (int shelf = 0; shelf <= 5; shelf++) {
            due(x.put(shelf, 0, 1), NOTHING);
            due(x.taken(shelf, 0), NOTHING);
        }
    }

    static void p01_nothingIsLedKeptOrUndoneAtFirst() {
        FingerSaysFar x = new FingerSaysFar();
        for (int what = 0; what <= 3; what++) {
            due(x.led(what), 0);
        }
        due(x.back(), STATE);
        due(x.undo(), STATE);
        due(x.redo(), STATE);
        due(x.trace(0), BAD);
    }

    /** Terms: "All memory is the class's own." */
    static void p01_twoObjectsShareNothing() {
        FingerSaysFar x = walkersOf(3);
        FingerSaysFar y = new FingerSaysFar();
        x.post(5);
        x.mend(0, 0, 4);
        x.mend(0, 6, 4);
        x.feed('1');
        x.body(2);
        x.act(0, 0, 0);
        x.row(0, BYTES, 3);
        x.goes(0, 1);
        x.image();
        for (int what = 0; what <= 5; what++) {
            due(y.count(what), 0);
        }
        due(y.of(0, 0), 0);
        due(y.of(0, 6), 0);
        due(y.led(0), 0);
        due(y.back(), STATE);
        due(y.put(0, 0, 1), NOTHING);
        law(x, "77");
        y.walker(0);
        due(y.step(1, 0), 5);
    }

    /** Terms: VOID and the names of the answers. */
    static void p01_constants() {
        due(FingerSaysFar.BAD, -1);
        due(FingerSaysFar.NOT, -2);
        due(FingerSaysFar.FULL, -3);
        due(FingerSaysFar.STATE, -5);
        due(FingerSaysFar.VOID, -2000000000);
    }

    // ---- promise 2: "A POST in a CELL, TO a CELL (ft): its number. BAD, FULL: 8."

    /** Terms: "CELLS 0 .. 143". */
    static void p02_cellsGoFrom0To143() {
        FingerSaysFar x = new FingerSaysFar();
        due(x.post(0), 0);
        due(x.post(143), 1);
        due(x.post(143000), 2);
        due(x.post(143143), 3);
        due(x.of(1, 1), 0);
        due(x.of(1, 2), 143);
        due(x.of(2, 1), 143);
        due(x.of(2, 2), 0);
    }

    static void p02_cellToIsTooLarge() {
        FingerSaysFar x = new FingerSaysFar();
        due(x.post(144), BAD);
        due(x.post(999), BAD);
        due(x.post(143144), BAD);
        due(x.post(5999), BAD);
    }

    static void p02_cellFromIsTooLarge() {
        FingerSaysFar x = new FingerSaysFar();
        due(x.post(144000), BAD);
        due(x.post(144143), BAD);
        due(x.post(1000000), BAD);
        due(x.post(MOST), BAD);
    }

    static void p02_cellsBelow0() {
        FingerSaysFar x = new FingerSaysFar();
        due(x.post(-1), BAD);
        due(x.post(-143), BAD);
        due(x.post(-1000), BAD);
        due(x.post(LEAST), BAD);
        due(x.count(0), 0);
    }

    /** Terms: "POSTS 0 .. 7, as they come". */
    static void p02_postsBearNumbers0To7() {
        FingerSaysFar x = new FingerSaysFar();
        for (int i = 0; i < 8; i++) {
            due(x.post(1000 * i + 100 + i), i);
            due(x.count(0), i + 1);
        }
        for (int i = 0; i < 8; i++) {
            due(x.of(i, 1), i);
            due(x.of(i, 2), 100 + i);
        }
    }

    static void p02_theNinthIsFull() {
        FingerSaysFar x = new FingerSaysFar();
        posts(x, 0, 1, 2, 3, 4, 5, 6, 7);
        due(x.post(8), FULL);
        due(x.post(9), FULL);
        due(x.count(0), 8);
        due(x.of(7, 2), 7);
        due(x.of(8, 2), VOID);
    }

    static void p02_badIsAheadOfFull() {
        FingerSaysFar x = new FingerSaysFar();
        posts(x, 0, 1, 2, 3, 4, 5, 6, 7);
        due(x.post(144), BAD);
        due(x.post(-1), BAD);
    }

    // ---- promise 3: "A WALKER: its number. BAD, FULL: 6."

    /** Terms: "HEART (-9 .. 9)". */
    static void p03_heartsGoFromMinus9To9() {
        FingerSaysFar x = new FingerSaysFar();
        due(x.walker(-9), 0);
        due(x.walker(9), 1);
        due(x.of(0, 3), -9);
        due(x.of(1, 3), 9);
    }

    static void p03_heartsTooLowOrTooHigh() {
        FingerSaysFar x = new FingerSaysFar();
        due(x.walker(-10), BAD);
        due(x.walker(10), BAD);
        due(x.walker(LEAST), BAD);
        due(x.walker(MOST), BAD);
        due(x.count(1), 0);
    }

    /** Terms: "WALKERS 0 .. 5, as they come". */
    static void p03_walkersBearNumbers0To5() {
        FingerSaysFar x = new FingerSaysFar();
        for (int i = 0; i < 6; i++) {
            due(x.walker(i - 2), i);
            due(x.count(1), i + 1);
        }
        for (int i = 0; i < 6; i++) {
            due(x.of(i, 3), i - 2);
        }
    }

    /** Terms: "LOAD (0 .. 9; 0 at first), SHOES (1 .. 9; 5 at first)", "WALKERS stand in CELL 0 at first". */
    static void p03_numbersAtFirst() {
        FingerSaysFar x = walkersOf(-3);
        due(x.of(0, 4), 0);
        due(x.of(0, 5), 5);
        due(x.of(0, 7), 0);
        due(x.of(0, 8), 0);
    }

    static void p03_theSeventhIsFull() {
        FingerSaysFar x = walkersOf(1, 2, 3, 4, 5, 6);
        due(x.walker(0), FULL);
        due(x.walker(9), FULL);
        due(x.count(1), 6);
        due(x.of(5, 3), 6);
        due(x.of(6, 3), VOID);
    }

    static void p03_badIsAheadOfFull() {
        FingerSaysFar x = walkersOf(1, 2, 3, 4, 5, 6);
        due(x.walker(10), BAD);
        due(x.walker(-10), BAD);
    }

    // ---- promise 4: "WALKERS FROM A ROW on a SHELF, from place i on, n (1 .. 6) of them: how many came."

    private static FingerSaysFar withBytes(long... values) {
        FingerSaysFar x = new FingerSaysFar();
        row(x, 0, BYTES, values);
        return x;
    }

    static void p04_noSuchShelf() {
        FingerSaysFar x = new FingerSaysFar();
        due(x.walkers(-1, 0, 1), BAD);
        due(x.walkers(6, 0, 1), BAD);
        due(x.walkers(LEAST, 0, 1), BAD);
        due(x.walkers(MOST, 0, 1), BAD);
    }

    static void p04_theLastShelf() {
        FingerSaysFar x = new FingerSaysFar();
        row(x, 5, BYTES, 1, 2, 3);
        due(x.walkers(5, 0, 1), 1);
    }

    static void p04_nBelow1() {
        FingerSaysFar x = withBytes(1, 2, 3);
        due(x.walkers(0, 0, 0), BAD);
        due(x.walkers(0, 0, -1), BAD);
        due(x.walkers(0, 0, LEAST), BAD);
        due(x.count(1), 0);
    }

    static void p04_nAbove6() {
        FingerSaysFar x = withBytes(1, 2, 3);
        due(x.walkers(0, 0, 7), BAD);
        due(x.walkers(0, 0, MOST), BAD);
        due(x.count(1), 0);
    }

    static void p04_sixAtOnce() {
        FingerSaysFar x = withBytes(1, 1, 1, 2, 2, 2, 3, 3, 3, 4, 4, 4, 5, 5, 5, 6, 6, 6);
        due(x.walkers(0, 0, 6), 6);
        for (int i = 0; i < 6; i++) {
            due(x.of(i, 3), i + 1);
            due(x.of(i, 4), i + 1);
            due(x.of(i, 5), i + 1);
        }
    }

    static void p04_noMoreThanN() {
        FingerSaysFar x = withBytes(1, 1, 1, 2, 2, 2, 3, 3, 3);
        due(x.walkers(0, 0, 1), 1);
        due(x.count(1), 1);
        due(x.walkers(0, 0, 2), 2);
        due(x.count(1), 3);
    }

    /** "-12 (no ROW of bytes ..)". */
    static void p04_rowsOfOtherSorts() {
        FingerSaysFar x = new FingerSaysFar();
        for (int sort = SHORTS; sort <= BOOLEANS; sort++) {
            x.row(0, sort, 6);
            due(x.walkers(0, 0, 1), KIND);
        }
        due(x.count(1), 0);
    }

    static void p04_aHeartIsNoRow() {
        FingerSaysFar x = new FingerSaysFar();
        x.body(0);
        x.keep(0, 0);
        due(x.walkers(0, 0, 1), KIND);
    }

    /** "a SHELF that holds nothing is missing": Terms: "it ends where the row is missing". */
    static void p04_aMissingRowEndsAtOnce() {
        FingerSaysFar x = new FingerSaysFar();
        due(x.walkers(0, 0, 1), 0);
        due(x.walkers(5, -1, 6), 0);
        row(x, 0, BYTES, 1, 2, 3);
        x.keep(0, -1);
        due(x.walkers(0, 0, 1), 0);
        due(x.count(1), 0);
    }

    static void p04_badIsAheadOfAnotherKind() {
        FingerSaysFar x = new FingerSaysFar();
        x.row(0, SHORTS, 6);
        due(x.walkers(0, 0, 0), BAD);
        due(x.walkers(0, 0, 7), BAD);
        due(x.walkers(1, 0, 7), BAD);
    }

    static void p04_anotherKindIsAheadOfThePlace() {
        FingerSaysFar x = walkersOf(1, 2, 3, 4, 5, 6);
        x.row(0, SHORTS, 6);
        due(x.walkers(0, -1, 1), KIND);
        due(x.walkers(0, 6, 1), KIND);
    }

    /** "it ends where the row .. has no such place (below 0, too)". */
    static void p04_aPlaceBelow0() {
        FingerSaysFar x = withBytes(1, 1, 1, 2, 2, 2);
        due(x.walkers(0, -1, 2), 0);
        due(x.walkers(0, -3, 2), 0);
        due(x.walkers(0, LEAST, 6), 0);
        due(x.count(1), 0);
    }

    static void p04_aPlaceBehindTheEnd() {
        FingerSaysFar x = withBytes(1, 1, 1, 2, 2, 2);
        due(x.walkers(0, 6, 1), 0);
        due(x.walkers(0, 7, 6), 0);
        due(x.walkers(0, 60, 6), 0);
        due(x.walkers(0, MOST, 6), 0);
        due(x.walkers(0, MOST - 2, 6), 0);
        due(x.count(1), 0);
    }

    static void p04_anEmptyRow() {
        FingerSaysFar x = withBytes();
        due(x.walkers(0, 0, 1), 0);
        due(x.walkers(0, -1, 1), 0);
    }

    static void p04_fromAPlaceOn() {
        FingerSaysFar x = withBytes(7, 1, 2, 3, 7);
        due(x.walkers(0, 1, 6), 1);
        due(x.of(0, 3), 1);
        due(x.of(0, 4), 2);
        due(x.of(0, 5), 3);
    }

    static void p04_theLastThreeOfALongRow() {
        FingerSaysFar x = new FingerSaysFar();
        x.row(0, BYTES, 60);
        x.put(0, 57, 4);
        x.put(0, 58, 5);
        x.put(0, 59, 6);
        due(x.walkers(0, 58, 1), 0);
        due(x.walkers(0, 57, 2), 1);
        due(x.of(0, 5), 6);
    }

    /** "it ends where the row .. ends": those ahead came. */
    static void p04_theRowEndsBehindAThree() {
        FingerSaysFar x = withBytes(1, 1, 1, 2, 2, 2);
        due(x.walkers(0, 0, 6), 2);
        due(x.count(1), 2);
    }

    /** "ends (within a three, too)". */
    static void p04_theRowEndsWithinAThree() {
        FingerSaysFar one = withBytes(1, 1, 1, 2);
        due(one.walkers(0, 0, 2), 1);
        due(one.count(1), 1);
        FingerSaysFar two = withBytes(1, 1, 1, 2, 2);
        due(two.walkers(0, 0, 2), 1);
        due(two.count(1), 1);
        due(two.walkers(0, 3, 1), 0);
        due(two.count(1), 1);
    }

    /** A shorter row laid where a longer one was ends at its own end. */
    static void p04_aShorterRowEndsAtItsOwnEnd() {
        FingerSaysFar x = withBytes(1, 1, 1, 2, 2, 2);
        row(x, 0, BYTES, 3, 3, 3);
        due(x.walkers(0, 0, 2), 1);
        due(x.walkers(0, 3, 1), 0);
    }

    /** "it ends where .. one is not so": HEART. */
    static void p04_aHeartThatIsNotSo() {
        for (int heart : new int[] {-10, 10, 127, -128}) {
            FingerSaysFar x = withBytes(1, 1, 1, heart, 2, 2, 3, 3, 3);
            due(x.walkers(0, 0, 3), 1);
            due(x.count(1), 1);
        }
    }

    /** "it ends where .. one is not so": LOAD. */
    static void p04_aLoadThatIsNotSo() {
        for (int load : new int[] {-1, 10, 127, -128}) {
            FingerSaysFar x = withBytes(1, 1, 1, 2, load, 2, 3, 3, 3);
            due(x.walkers(0, 0, 3), 1);
            due(x.count(1), 1);
        }
    }

    /** "it ends where .. one is not so": SHOES. */
    static void p04_shoesThatAreNotSo() {
        for (int shoes : new int[] {0, -1, 10, 127, -128}) {
            FingerSaysFar x = withBytes(1, 1, 1, 2, 2, shoes, 3, 3, 3);
            due(x.walkers(0, 0, 3), 1);
            due(x.count(1), 1);
        }
    }

    static void p04_theLeastAndTheGreatestNumbersAreSo() {
        FingerSaysFar x = withBytes(-9, 0, 1, 9, 9, 9);
        due(x.walkers(0, 0, 2), 2);
        due(x.of(0, 3), -9);
        due(x.of(0, 4), 0);
        due(x.of(0, 5), 1);
        due(x.of(1, 3), 9);
        due(x.of(1, 4), 9);
        due(x.of(1, 5), 9);
    }

    /** "it ends where .. WALKERS are FULL: those ahead came". */
    static void p04_walkersBecomeFull() {
        FingerSaysFar x = walkersOf(1, 2, 3, 4);
        row(x, 0, BYTES, 5, 5, 5, 6, 6, 6, 7, 7, 7);
        due(x.walkers(0, 0, 3), 2);
        due(x.count(1), 6);
        due(x.of(5, 3), 6);
    }

    static void p04_walkersAreFullAlready() {
        FingerSaysFar x = walkersOf(1, 2, 3, 4, 5, 6);
        row(x, 0, BYTES, 5, 5, 5);
        due(x.walkers(0, 0, 1), 0);
        due(x.count(1), 6);
    }

    static void p04_whoComesFromARowStandsInCell0() {
        FingerSaysFar x = withBytes(1, 2, 3);
        x.walkers(0, 0, 1);
        due(x.of(0, 7), 0);
        due(x.of(0, 8), 0);
        due(x.count(3), 0);
    }

    // ---- promise 5: "HEIGHT (what 0) .. WEATHER (6; number 0) becomes v: what it was. VOID: BAD."

    private static FingerSaysFar onePostOneWalker() {
        FingerSaysFar x = walkersOf(4);
        x.post(5006);
        return x;
    }

    private static void mends(int number, int what, int least, int most) {
        FingerSaysFar x = onePostOneWalker();
        int was = x.of(number, what);
        for (int v : new int[] {least - 1, most + 1, LEAST, MOST}) {
            due(x.mend(number, what, v), VOID);
        }
        due(x.of(number, what), was);
        due(x.count(3), 0);
        for (int v = least; v <= most; v++) {
            due(x.mend(number, what, v), was);
            due(x.of(number, what), v);
            was = v;
        }
    }

    static void p05_heightsFrom0To9() {
        mends(0, 0, 0, 9);
        mends(143, 0, 0, 9);
    }

    static void p05_cellOfAPostFrom0To143() {
        mends(0, 1, 0, 143);
    }

    static void p05_cellAPostPointsToFrom0To143() {
        mends(0, 2, 0, 143);
    }

    static void p05_heartsFromMinus9To9() {
        mends(0, 3, -9, 9);
    }

    static void p05_loadsFrom0To9() {
        mends(0, 4, 0, 9);
    }

    static void p05_shoesFrom1To9() {
        mends(0, 5, 1, 9);
    }

    static void p05_weatherFrom0To9() {
        mends(0, 6, 0, 9);
    }

    static void p05_noSuchCell() {
        FingerSaysFar x = onePostOneWalker();
        for (int cell : new int[] {-1, 144, LEAST, MOST}) {
            due(x.mend(cell, 0, 1), VOID);
        }
    }

    static void p05_noSuchPost() {
        FingerSaysFar x = onePostOneWalker();
        for (int post : new int[] {-1, 1, 7, 8, LEAST, MOST}) {
            due(x.mend(post, 1, 1), VOID);
            due(x.mend(post, 2, 1), VOID);
        }
    }

    static void p05_noSuchWalker() {
        FingerSaysFar x = onePostOneWalker();
        for (int walker : new int[] {-1, 1, 5, 6, LEAST, MOST}) {
            due(x.mend(walker, 3, 1), VOID);
            due(x.mend(walker, 4, 1), VOID);
            due(x.mend(walker, 5, 1), VOID);
        }
    }

    static void p05_weatherHasNumber0Alone() {
        FingerSaysFar x = onePostOneWalker();
        for (int number : new int[] {-1, 1, LEAST, MOST}) {
            due(x.mend(number, 6, 1), VOID);
        }
        due(x.of(0, 6), 0);
    }

    /** Where one stands and his minutes are told by of() alone. */
    static void p05_whatBelow0OrAbove6() {
        FingerSaysFar x = onePostOneWalker();
        for (int what : new int[] {-1, 7, 8, 9, LEAST, MOST}) {
            due(x.mend(0, what, 1), VOID);
        }
        due(x.of(0, 7), 0);
        due(x.of(0, 8), 0);
    }

    /** Terms: "telling the same number is none". */
    static void p05_tellingTheSameNumberIsNoChange() {
        FingerSaysFar x = onePostOneWalker();
        int[] same = {0, 5, 6, 4, 0, 5, 0};
        for (int what = 0; what <= 6; what++) {
            due(x.mend(0, what, same[what]), same[what]);
            due(x.count(3), 0);
        }
        due(x.undo(), STATE);
    }

    static void p05_theLastPostAndWalker() {
        FingerSaysFar x = walkersOf(0, 0, 0, 0, 0, 0);
        posts(x, 0, 0, 0, 0, 0, 0, 0, 0);
        due(x.mend(7, 1, 9), 0);
        due(x.mend(7, 2, 8), 0);
        due(x.mend(5, 3, 7), 0);
        due(x.mend(5, 4, 6), 0);
        due(x.mend(5, 5, 4), 5);
        due(x.of(6, 1), 0);
        due(x.of(6, 2), 0);
        due(x.of(4, 3), 0);
        due(x.of(4, 4), 0);
        due(x.of(4, 5), 5);
    }

    // ---- promise 6: "As of mend() (0 to 6); of a WALKER 7 in which CELL he stands, 8 his minutes. VOID: BAD."

    static void p06_noSuchCell() {
        FingerSaysFar x = onePostOneWalker();
        for (int cell : new int[] {-1, 144, LEAST, MOST}) {
            due(x.of(cell, 0), VOID);
        }
        due(x.of(143, 0), 0);
    }

    static void p06_noSuchPost() {
        FingerSaysFar x = onePostOneWalker();
        for (int post : new int[] {-1, 1, 7, 8, LEAST, MOST}) {
            due(x.of(post, 1), VOID);
            due(x.of(post, 2), VOID);
        }
    }

    static void p06_noSuchWalker() {
        FingerSaysFar x = onePostOneWalker();
        for (int walker : new int[] {-1, 1, 5, 6, LEAST, MOST}) {
            for (int what : new int[] {3, 4, 5, 7, 8}) {
                due(x.of(walker, what), VOID);
            }
        }
    }

    static void p06_weatherHasNumber0Alone() {
        FingerSaysFar x = onePostOneWalker();
        for (int number : new int[] {-1, 1, LEAST, MOST}) {
            due(x.of(number, 6), VOID);
        }
    }

    static void p06_whatBelow0OrAbove8() {
        FingerSaysFar x = onePostOneWalker();
        for (int what : new int[] {-1, 9, LEAST, MOST}) {
            due(x.of(0, what), VOID);
        }
    }

    /** "7 in which CELL he stands, 8 his minutes": 0 of both at first, then by his own steps alone. */
    static void p06_whereOneStandsAndHisMinutes() {
        FingerSaysFar x = walkersOf(0, 1);
        due(x.of(1, 7), 0);
        due(x.of(1, 8), 0);
        x.goes(1, 2);
        x.goes(1, 1);
        due(x.of(1, 7), 13);
        due(x.of(1, 8), 8);
        due(x.of(0, 7), 0);
        due(x.of(0, 8), 0);
    }
}
