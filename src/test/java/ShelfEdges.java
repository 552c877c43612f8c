/** Promises 39 to 48, acts and shelves: a test for each sentence that names a boundary case. */
final class ShelfEdges extends Checks {
    private static final int POINTS = 0, GROWS = 1, TURNS = 2, READS = 3;
    private static final int HEART = 0, ARM = 1, MARE = 2, RAIN = 3, WIFE = 4, STUMP = 5, CHILD = 6, BASKET = 7;
    private static final int[] NO_SHELVES = {-1, 6, LEAST, MOST};

    private static FingerSaysFar allKinds() {
        FingerSaysFar x = new FingerSaysFar();
        for (int kind = 0; kind < 8; kind++) {
            x.body(kind);
        }
        return x;
    }

    // ---- promise 39: "A HEART of a KIND (0 .. 7) is kept: its number. BAD, FULL."

    static void p39_kindsGoFrom0To7() {
        FingerSaysFar x = new FingerSaysFar();
        for (int kind = 0; kind < 8; kind++) {
            due(x.body(kind), kind);
        }
        for (int kind : new int[] {-1, 8, LEAST, MOST}) {
            due(x.body(kind), BAD);
        }
        due(x.count(4), 8);
    }

    /** Terms: "BODIES 0 .. 49". */
    static void p39_fiftyAreKept() {
        FingerSaysFar x = new FingerSaysFar();
        for (int i = 0; i < 50; i++) {
            due(x.body(7 - i % 8), i);
        }
        due(x.body(0), FULL);
        due(x.body(7), FULL);
        due(x.count(4), 50);
        for (int i = 0; i < 50; i++) {
            x.keep(0, i);
            due(x.taken(0, 0), 7 - i % 8);
        }
    }

    static void p39_badIsAheadOfFull() {
        FingerSaysFar x = new FingerSaysFar();
        for (int i = 0; i < 50; i++) {
            x.body(0);
        }
        due(x.body(-1), BAD);
        due(x.body(8), BAD);
    }

    // ---- promise 40: "An ACT (0 .. 3) of a HEART with x. 0, and no TRACE then: no such HEART, ACT."

    static void p40_noSuchHeart() {
        FingerSaysFar x = allKinds();
        for (int body : new int[] {-1, 8, 49, 50, LEAST, MOST}) {
            x.act(0, POINTS, 1);
            due(x.count(5), 1);
            due(x.act(body, POINTS, 5), 0);
            due(x.count(5), 0);
            due(x.trace(0), BAD);
        }
        due(new FingerSaysFar().act(0, 0, 5), 0);
    }

    static void p40_noSuchAct() {
        FingerSaysFar x = allKinds();
        for (int act : new int[] {-1, 4, LEAST, MOST}) {
            x.act(0, POINTS, 1);
            due(x.count(5), 1);
            due(x.act(0, act, 5), 0);
            due(x.count(5), 0);
            due(x.trace(0), BAD);
        }
    }

    /** Acts of each KIND with x 10, where the body's number is its KIND. */
    static void p40_eachKindAndAct() {
        FingerSaysFar x = allKinds();
        int[][] due = {
            {10, 20, 10, 19},
            {14, 28, 11, 28},
            {12, -24, 8, -27},
            {13, -28, 27, -34},
            {17, 34, 5, 38},
            {15, -32, 45, (-32 - 12) ^ 5},
            {32, 64, 12, 57},
            {20, 33, 1, 38}};
        for (int kind = 0; kind < 8; kind++) {
            for (int act = 0; act < 4; act++) {
                due(x.act(kind, act, 10), due[kind][act]);
            }
        }
    }

    /** "n its number": of the BODY, not of its KIND. */
    static void p40_theLastBody() {
        FingerSaysFar x = new FingerSaysFar();
        for (int i = 0; i < 50; i++) {
            x.body(BASKET);
        }
        due(x.act(49, POINTS, 1), 1 + 49 + 3);
        due(x.act(49, TURNS, 1), (1 ^ 49) - (2 + 49 + 3));
        due(x.act(0, POINTS, 1), 4);
    }

    /** "x (an int that wraps)". */
    static void p40_intsThatWrap() {
        FingerSaysFar x = allKinds();
        due(x.act(ARM, POINTS, MOST), MOST + 4);
        due(x.act(HEART, GROWS, MOST), -2);
        due(x.act(HEART, GROWS, LEAST), 0);
        due(x.act(MARE, GROWS, 0x3FFFFFFE), LEAST);
        due(x.act(RAIN, GROWS, MOST), -((LEAST + 3) * 2));
        due(x.act(RAIN, TURNS, LEAST), (LEAST ^ 3) * 3);
        due(x.act(CHILD, POINTS, MOST), (MOST + 6) * 2);
        due(x.act(BASKET, READS, LEAST), (LEAST + 10) * 2 + (5 - 12) - (6 - 12) - 1);
        due(x.act(STUMP, READS, MOST), (-((LEAST + 5) * 2) - 12) ^ 5);
        due(x.act(WIFE, TURNS, LEAST), (LEAST ^ 4) - 9);
    }

    // ---- promise 41: "THE TRACE's i-th body. BAD."

    /** Terms: "numbers of the bodies that ran in the latest act(), as they began". */
    static void p41_asTheyBegan() {
        FingerSaysFar x = allKinds();
        int[][][] ran = {
            {{1}, {10, 1}, {11}, {2, 10, 1, 11}},
            {{20, 1}, {10, 20, 1}, {11}, {2, 10, 20, 1, 11}},
            {{1}, {30, 10, 1}, {11}, {2, 30, 10, 1, 11}},
            {{1}, {41, 30, 10, 1}, {40, 11}, {2, 41, 30, 10, 1, 40, 11}},
            {{20, 1}, {10, 20, 1}, {50, 11, 20, 1}, {2, 10, 20, 1, 50, 11, 20, 1}},
            {{1}, {41, 30, 10, 1}, {40, 11}, {60, 2, 41, 30, 10, 1, 40, 11}},
            {{70, 1}, {10, 70, 1}, {11}, {2, 10, 70, 1, 11}},
            {{20, 1}, {80, 10, 20, 1, 50, 11, 20, 1}, {50, 11, 20, 1},
                {81, 2, 80, 10, 20, 1, 50, 11, 20, 1, 50, 11, 20, 1}}};
        for (int kind = 0; kind < 8; kind++) {
            for (int act = 0; act < 4; act++) {
                x.act(kind, act, 3);
                for (int i = 0; i < ran[kind][act].length; i++) {
                    due(x.trace(i), ran[kind][act][i]);
                }
                due(x.trace(ran[kind][act].length), BAD);
            }
        }
    }

    static void p41_noActYet() {
        FingerSaysFar x = allKinds();
        due(x.trace(0), BAD);
        due(x.trace(-1), BAD);
    }

    static void p41_noSuchPlace() {
        FingerSaysFar x = allKinds();
        x.act(BASKET, READS, 1);
        due(x.trace(13), 1);
        for (int i : new int[] {-1, 14, 23, 24, 25, LEAST, MOST}) {
            due(x.trace(i), BAD);
        }
    }

    /** "in the latest act()": a shorter trace takes a longer one's place. */
    static void p41_theLatestAct() {
        FingerSaysFar x = allKinds();
        x.act(BASKET, READS, 1);
        x.act(MARE, TURNS, 1);
        due(x.trace(0), 11);
        due(x.trace(1), BAD);
        due(x.count(5), 1);
    }

    // ---- promise 42: "A SHELF holds nothing (body -1), or a HEART: 1. BAD."

    static void p42_noSuchShelf() {
        FingerSaysFar x = allKinds();
        for (int shelf : NO_SHELVES) {
            due(x.keep(shelf, 0), BAD);
            due(x.keep(shelf, -1), BAD);
        }
        due(x.keep(5, 7), 1);
        due(x.taken(5, 0), 7);
    }

    static void p42_noSuchHeart() {
        FingerSaysFar x = allKinds();
        x.keep(0, 3);
        for (int body : new int[] {-2, 8, 49, 50, LEAST, MOST}) {
            due(x.keep(0, body), BAD);
        }
        due(x.taken(0, 0), 3);
        due(new FingerSaysFar().keep(0, 0), BAD);
    }

    static void p42_nothing() {
        FingerSaysFar x = allKinds();
        due(x.keep(0, -1), 1);
        due(x.taken(0, 0), NOTHING);
        x.keep(0, 3);
        due(x.keep(0, -1), 1);
        due(x.taken(0, 0), NOTHING);
        x.row(0, INTS, 3);
        due(x.keep(0, -1), 1);
        due(x.put(0, 0, 1), NOTHING);
    }

    static void p42_aHeartInARowsPlace() {
        FingerSaysFar x = allKinds();
        x.row(0, INTS, 3);
        due(x.keep(0, 2), 1);
        due(x.put(0, 0, 1), KIND);
        due(x.taken(0, 0), 2);
        due(x.keep(0, 0), 1);
        due(x.taken(0, 0), 0);
    }

    // ---- promise 43: "A SHELF holds a ROW: 1. BAD (sort, n above 60); -14."

    static void p43_noSuchShelf() {
        FingerSaysFar x = new FingerSaysFar();
        for (int shelf : NO_SHELVES) {
            due(x.row(shelf, INTS, 3), BAD);
        }
        due(x.row(5, INTS, 3), 1);
        due(x.put(5, 2, 1), 1);
    }

    static void p43_sortsGoFrom0To4() {
        FingerSaysFar x = new FingerSaysFar();
        for (int sort = 0; sort <= 4; sort++) {
            due(x.row(0, sort, 1), 1);
        }
        x.keep(0, -1);
        for (int sort : new int[] {-1, 5, LEAST, MOST}) {
            due(x.row(0, sort, 1), BAD);
        }
        due(x.put(0, 0, 1), NOTHING);
    }

    /** Terms: "of 0 .. 60 elements". */
    static void p43_sizesGoFrom0To60() {
        FingerSaysFar x = new FingerSaysFar();
        due(x.row(0, INTS, 0), 1);
        due(x.put(0, 0, 1), PLACE);
        due(x.row(0, INTS, 60), 1);
        due(x.put(0, 59, 1), 1);
        due(x.put(0, 60, 1), PLACE);
        due(x.row(0, INTS, 1), 1);
        due(x.put(0, 0, 1), 1);
        due(x.put(0, 1, 1), PLACE);
    }

    static void p43_tooLarge() {
        FingerSaysFar x = new FingerSaysFar();
        due(x.row(0, INTS, 61), BAD);
        due(x.row(0, INTS, MOST), BAD);
        due(x.put(0, 0, 1), NOTHING);
    }

    /** "-14 a size below 0". */
    static void p43_aSizeBelow0() {
        FingerSaysFar x = new FingerSaysFar();
        due(x.row(0, INTS, -1), SIZE);
        due(x.row(0, INTS, LEAST), SIZE);
        due(x.put(0, 0, 1), NOTHING);
    }

    static void p43_badIsAheadOfASizeBelow0() {
        FingerSaysFar x = new FingerSaysFar();
        due(x.row(6, INTS, -1), BAD);
        due(x.row(0, 5, -1), BAD);
        due(x.row(0, -1, -1), BAD);
    }

    /** Terms: "0 at first (false)", also where another ROW stood. */
    static void p43_zerosAtFirst() {
        FingerSaysFar x = new FingerSaysFar();
        for (int sort = 0; sort <= 4; sort++) {
            due(x.row(0, sort, 3), 1);
            for (int i = 0; i < 3; i++) {
                due(x.element(0, i), 0);
                x.put(0, i, -1);
            }
        }
        x.row(0, LONGS, 60);
        x.put(0, 59, 7);
        x.row(0, LONGS, 60);
        due(x.element(0, 59), 0);
    }

    static void p43_aRowInAHeartsPlace() {
        FingerSaysFar x = allKinds();
        x.keep(0, 3);
        due(x.row(0, INTS, 3), 1);
        due(x.taken(0, 0), KIND);
        due(x.element(0, 2), 0);
    }

    // ---- promise 44: "Element i of a ROW becomes v: 1. BAD, -11, -12, -13."

    static void p44_noSuchShelf() {
        FingerSaysFar x = new FingerSaysFar();
        for (int shelf : NO_SHELVES) {
            due(x.put(shelf, 0, 1), BAD);
        }
    }

    static void p44_nothingThere() {
        FingerSaysFar x = new FingerSaysFar();
        due(x.put(0, 0, 1), NOTHING);
        due(x.put(0, -1, 1), NOTHING);
        due(x.put(0, 60, 1), NOTHING);
    }

    static void p44_aHeartIsNoRow() {
        FingerSaysFar x = allKinds();
        x.keep(0, 0);
        due(x.put(0, 0, 1), KIND);
        due(x.put(0, -1, 1), KIND);
        due(x.put(0, 60, 1), KIND);
    }

    static void p44_noSuchPlace() {
        FingerSaysFar x = new FingerSaysFar();
        x.row(0, INTS, 3);
        for (int i : new int[] {-1, 3, 59, 60, LEAST, MOST}) {
            due(x.put(0, i, 1), PLACE);
        }
        due(x.put(0, 0, 1), 1);
        due(x.put(0, 2, 1), 1);
    }

    /** Terms: "what is put in keeps its lowest bits". */
    static void p44_lowestBits() {
        FingerSaysFar x = new FingerSaysFar();
        long[] values = {0, 1, -1, 127, 128, -128, -129, 255, 256, 32767, 32768, -32768, -32769, 65535, 65536,
            MOST, MOST + 1L, LEAST, LEAST - 1L, 1L << 32, Long.MAX_VALUE, Long.MIN_VALUE, 0x123456789ABCDEF0L};
        for (int sort = BYTES; sort <= LONGS; sort++) {
            x.row(0, sort, 1);
            for (long v : values) {
                due(x.put(0, 0, v), 1);
                long kept = sort == BYTES ? (byte) v : sort == SHORTS ? (short) v : sort == INTS ? (int) v : v;
                due(x.element(0, 0), kept);
            }
        }
    }

    /** "a boolean: whether it is not 0; 1 or 0", whatever its lowest bits are. */
    static void p44_booleans() {
        FingerSaysFar x = new FingerSaysFar();
        x.row(0, BOOLEANS, 1);
        for (long v : new long[] {1, 0, 2, 0, -1, 256, 1L << 32, Long.MIN_VALUE, 0}) {
            due(x.put(0, 0, v), 1);
            due(x.element(0, 0), v != 0 ? 1 : 0);
        }
    }

    // ---- promise 45: "Element i of a ROW; Long.MIN_VALUE: BAD, -11 to -13."

    static void p45_noSuchShelf() {
        FingerSaysFar x = new FingerSaysFar();
        for (int shelf : NO_SHELVES) {
            due(x.element(shelf, 0), Long.MIN_VALUE);
        }
    }

    static void p45_nothingThere() {
        due(new FingerSaysFar().element(0, 0), Long.MIN_VALUE);
    }

    static void p45_aHeartIsNoRow() {
        FingerSaysFar x = allKinds();
        x.keep(0, 0);
        due(x.element(0, 0), Long.MIN_VALUE);
    }

    static void p45_noSuchPlace() {
        FingerSaysFar x = new FingerSaysFar();
        row(x, 0, INTS, 7, 8, 9);
        for (int i : new int[] {-1, 3, 59, 60, LEAST, MOST}) {
            due(x.element(0, i), Long.MIN_VALUE);
        }
        due(x.element(0, 0), 7);
        due(x.element(0, 2), 9);
        x.row(0, INTS, 0);
        due(x.element(0, 0), Long.MIN_VALUE);
    }

    static void p45_shelvesLieApart() {
        FingerSaysFar x = new FingerSaysFar();
        for (int shelf = 0; shelf <= 5; shelf++) {
            row(x, shelf, INTS, shelf + 10);
        }
        for (int shelf = 0; shelf <= 5; shelf++) {
            due(x.element(shelf, 0), shelf + 10);
        }
    }

    // ---- promise 46: "n elements of a ROW from i on come to another one (or the same) from j on"

    private static FingerSaysFar twoRows() {
        FingerSaysFar x = new FingerSaysFar();
        row(x, 0, INTS, 1, 2, 3, 4, 5);
        row(x, 1, INTS, 6, 7, 8);
        return x;
    }

    private static void rowIs(FingerSaysFar x, int shelf, long... values) {
        for (int i = 0; i < values.length; i++) {
            due(x.element(shelf, i), values[i]);
        }
        due(x.element(shelf, values.length), Long.MIN_VALUE);
    }

    static void p46_noSuchShelf() {
        FingerSaysFar x = twoRows();
        for (int shelf : NO_SHELVES) {
            due(x.shift(shelf, 0, 0, 0, 1), BAD);
            due(x.shift(0, 0, shelf, 0, 1), BAD);
            due(x.shift(shelf, 0, 2, 0, 1), BAD);
            due(x.shift(2, 0, shelf, 0, 1), BAD);
        }
        row(x, 5, INTS, 9);
        due(x.shift(5, 0, 0, 0, 1), 1);
        due(x.element(0, 0), 9);
    }

    /** "-11 (either)". */
    static void p46_nothingThere() {
        FingerSaysFar x = twoRows();
        x.body(0);
        x.keep(3, 0);
        due(x.shift(2, 0, 0, 0, 1), NOTHING);
        due(x.shift(0, 0, 2, 0, 1), NOTHING);
        due(x.shift(2, 0, 2, 0, 0), NOTHING);
        due(x.shift(2, 0, 3, 0, 1), NOTHING);
        due(x.shift(3, 0, 2, 0, 1), NOTHING);
        due(x.shift(0, -1, 2, 0, 1), NOTHING);
    }

    /** "-12 (no ROWS, or of unlike sorts)". */
    static void p46_noRows() {
        FingerSaysFar x = twoRows();
        x.body(0);
        x.keep(3, 0);
        due(x.shift(3, 0, 0, 0, 1), KIND);
        due(x.shift(0, 0, 3, 0, 1), KIND);
        due(x.shift(3, 0, 3, 0, 0), KIND);
        due(x.shift(3, -1, 0, 9, 1), KIND);
    }

    static void p46_unlikeSorts() {
        FingerSaysFar x = new FingerSaysFar();
        for (int sort = 0; sort <= 4; sort++) {
            x.row(sort, sort, 2);
        }
        for (int a = 0; a <= 4; a++) {
            for (int b = 0; b <= 4; b++) {
                due(x.shift(a, 0, b, 1, 1), a == b ? 1 : KIND);
                due(x.shift(a, 9, b, -1, 1), a == b ? PLACE : KIND);
            }
        }
    }

    static void p46_noSuchPlace() {
        FingerSaysFar x = twoRows();
        int[][] places = {{-1, 0, 1}, {0, -1, 1}, {5, 0, 1}, {0, 3, 1}, {4, 0, 2}, {0, 2, 2}, {0, 0, 4}, {0, 0, 6},
            {-1, 0, 0}, {0, -1, 0}, {6, 0, 0}, {0, 4, 0}, {MOST, 0, 1}, {0, MOST, 1}, {LEAST, 0, 1}, {0, LEAST, 1},
            {1, 0, MOST}, {0, 1, MOST}, {MOST, MOST, MOST}, {3, 0, 3}};
        for (int[] p : places) {
            due(x.shift(0, p[0], 1, p[1], p[2]), PLACE);
        }
        rowIs(x, 0, 1, 2, 3, 4, 5);
        rowIs(x, 1, 6, 7, 8);
    }

    /** n below 0: no such places; promise 46 names no -14. */
    static void p46_nBelow0() {
        FingerSaysFar x = twoRows();
        due(x.shift(0, 0, 1, 0, -1), PLACE);
        due(x.shift(0, 2, 1, 2, -1), PLACE);
        due(x.shift(0, 0, 1, 0, LEAST), PLACE);
        due(x.shift(0, 0, 0, 0, -1), PLACE);
    }

    static void p46_noneAtTheEnds() {
        FingerSaysFar x = twoRows();
        due(x.shift(0, 0, 1, 0, 0), 0);
        due(x.shift(0, 5, 1, 3, 0), 0);
        rowIs(x, 1, 6, 7, 8);
        x.row(2, INTS, 0);
        due(x.shift(2, 0, 2, 0, 0), 0);
        due(x.shift(0, 0, 2, 0, 1), PLACE);
    }

    static void p46_asFarAsTheEnds() {
        FingerSaysFar x = twoRows();
        due(x.shift(0, 2, 1, 0, 3), 3);
        rowIs(x, 1, 3, 4, 5);
        due(x.shift(1, 0, 0, 0, 3), 3);
        rowIs(x, 0, 3, 4, 5, 4, 5);
        due(x.shift(0, 4, 1, 2, 1), 1);
        rowIs(x, 1, 3, 4, 5);
    }

    /** "(or the same) .., as they all were before". */
    static void p46_ontoItself() {
        FingerSaysFar x = twoRows();
        due(x.shift(0, 0, 0, 1, 4), 4);
        rowIs(x, 0, 1, 1, 2, 3, 4);
        FingerSaysFar y = twoRows();
        due(y.shift(0, 1, 0, 0, 4), 4);
        rowIs(y, 0, 2, 3, 4, 5, 5);
        due(y.shift(0, 0, 0, 0, 5), 5);
        rowIs(y, 0, 2, 3, 4, 5, 5);
        due(y.shift(0, 0, 0, 1, 5), PLACE);
    }

    static void p46_sixty() {
        FingerSaysFar x = new FingerSaysFar();
        x.row(0, LONGS, 60);
        x.row(1, LONGS, 60);
        x.put(0, 0, Long.MAX_VALUE);
        x.put(0, 59, Long.MIN_VALUE + 1);
        due(x.shift(0, 0, 1, 0, 60), 60);
        due(x.element(1, 0), Long.MAX_VALUE);
        due(x.element(1, 59), Long.MIN_VALUE + 1);
        due(x.shift(0, 0, 1, 0, 61), PLACE);
    }

    /** Behind the end of a ROW lies nothing, though a longer one stood there. */
    static void p46_aShorterRow() {
        FingerSaysFar x = twoRows();
        x.row(0, INTS, 2);
        due(x.shift(0, 0, 1, 0, 3), PLACE);
        due(x.shift(1, 0, 0, 0, 3), PLACE);
        due(x.shift(1, 0, 0, 0, 2), 2);
    }

    // ---- promise 47: "What a SHELF holds, taken for a HEART of KIND k (0 .. 7), or under it: its KIND."

    static void p47_noSuchShelf() {
        FingerSaysFar x = allKinds();
        for (int shelf : NO_SHELVES) {
            due(x.taken(shelf, 0), BAD);
        }
    }

    static void p47_noSuchKind() {
        FingerSaysFar x = allKinds();
        x.keep(0, 0);
        for (int k : new int[] {-1, 8, LEAST, MOST}) {
            due(x.taken(0, k), BAD);
        }
    }

    static void p47_badIsAheadOfTheRefusals() {
        FingerSaysFar x = new FingerSaysFar();
        due(x.taken(0, 8), BAD);
        x.row(0, INTS, 1);
        due(x.taken(0, -1), BAD);
    }

    static void p47_nothingThere() {
        FingerSaysFar x = allKinds();
        for (int k = 0; k < 8; k++) {
            due(x.taken(0, k), NOTHING);
        }
    }

    static void p47_aRowIsNoHeart() {
        FingerSaysFar x = allKinds();
        for (int sort = 0; sort <= 4; sort++) {
            x.row(0, sort, 1);
            for (int k = 0; k < 8; k++) {
                due(x.taken(0, k), KIND);
            }
        }
    }

    static void p47_ofItsKindOrUnderIt() {
        FingerSaysFar x = allKinds();
        int[][] kinds = {{HEART}, {ARM, HEART}, {MARE, HEART}, {RAIN, MARE, HEART}, {WIFE, ARM, HEART},
            {STUMP, RAIN, MARE, HEART}, {CHILD, HEART}, {BASKET, WIFE, ARM, HEART}};
        for (int kind = 0; kind < 8; kind++) {
            x.keep(0, kind);
            for (int k = 0; k < 8; k++) {
                boolean isSo = false;
                for (int above : kinds[kind]) {
                    isSo |= above == k;
                }
                due(x.taken(0, k), isSo ? kind : KIND);
            }
        }
    }

    // ---- promise 48: "How many: 0 POSTS, 1 WALKERS, 2 bytes on THE TAPE, 3 changes that may be UNDONE, 4 BODIES .."

    static void p48_noSuchWhat() {
        FingerSaysFar x = allKinds();
        for (int what : new int[] {-1, 6, LEAST, MOST}) {
            due(x.count(what), BAD);
        }
    }

    static void p48_eachCountIsItsOwn() {
        FingerSaysFar x = walkersOf(0, 0);
        x.post(1);
        feedText(x, "123");
        for (int i = 1; i <= 5; i++) {
            x.mend(i, 0, 1);
        }
        x.undo();
        for (int i = 0; i < 5; i++) {
            x.body(BASKET);
        }
        x.act(0, READS, 1);
        int[] counts = {1, 2, 3, 4, 5, 14};
        for (int what = 0; what <= 5; what++) {
            due(x.count(what), counts[what]);
        }
    }

    static void p48_theGreatestCounts() {
        FingerSaysFar x = walkersOf(0, 0, 0, 0, 0, 0, 0);
        posts(x, 0, 0, 0, 0, 0, 0, 0, 0, 0);
        feedText(x, times("1", 121));
        for (int i = 0; i < 41; i++) {
            x.mend(i, 0, 1);
        }
        for (int i = 0; i < 51; i++) {
            x.body(0);
        }
        int[] counts = {8, 6, 120, 40, 50, 0};
        for (int what = 0; what <= 5; what++) {
            due(x.count(what), counts[what]);
        }
    }
}
