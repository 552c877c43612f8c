import java.util.HashMap;
import java.util.Map;

/**
 * Terms: "What is answered so changes nothing." For each promise calls that are refused, on a moor that has something
 * of everything: behind them all that can be told of the moor is as on one that was not called so. Nor do calls that
 * only ask change anything.
 */
final class RefusalEdges extends Checks {
    interface Call {
        long on(FingerSaysFar x);
    }

    /** New, rich: something of everything; full: no place left; bare: neither image nor changes. */
    private enum Moor {
        BARE, RICH, FULL_UP;

        FingerSaysFar made() {
            return this == BARE ? bare() : this == RICH ? rich() : full();
        }
    }

    private static FingerSaysFar bare() {
        FingerSaysFar x = walkersOf(0);
        x.goes(0, 1);
        return x;
    }

    private static FingerSaysFar rich() {
        FingerSaysFar x = walkersOf(1, -4);
        posts(x, 5010, 66066, 143000);
        x.takes(0, 3);
        x.goes(0, 1);
        x.goes(1, 2);
        x.mend(0, 5, 7);
        x.image();
        x.goes(0, 2);
        x.cheer(1);
        x.putDown(0);
        x.takes(1, 8);
        law(x, "9+u*u-k+l+w-s/2");
        heights(x, 4, 1, 13, 26);
        x.mend(0, 6, 2);
        x.mend(0, 2, 99);
        x.undo();
        x.undo();
        feedText(x, "7+k");
        for (int kind = 0; kind < 8; kind++) {
            x.body(kind);
        }
        x.act(7, 3, 11);
        x.keep(1, 4);
        row(x, 2, BYTES, 1, 2, 3, 4, 5);
        row(x, 3, SHORTS, 1, 0, 0, 77);
        row(x, 4, INTS, 8, 9, 10);
        row(x, 5, BOOLEANS, 1, 0, 1);
        return x;
    }

    private static FingerSaysFar full() {
        FingerSaysFar x = walkersOf(1, 2, 3, 4, 5, 6);
        posts(x, 0, 1, 2, 3, 4, 5, 6, 7);
        feedText(x, times("1+", 59) + "17");
        for (int i = 0; i < 50; i++) {
            x.body(i % 8);
        }
        x.takes(0, 3);
        return x;
    }

    // ---- all that can be told of a moor; each tells of an object of its own, so that none has more than 512 calls

    private static String numbers(FingerSaysFar x) {
        StringBuilder all = new StringBuilder();
        for (int cell = 0; cell < 144; cell++) {
            all.append(x.of(cell, 0));
        }
        all.append(" posts");
        for (int post = 0; post < 9; post++) {
            all.append(' ').append(x.of(post, 1)).append('>').append(x.of(post, 2));
        }
        walkers(x, all);
        all.append(" counts ").append(x.of(0, 6));
        for (int what = 0; what <= 5; what++) {
            all.append(' ').append(x.count(what));
        }
        for (int i = 0; i <= x.count(5); i++) {
            all.append(' ').append(x.trace(i));
        }
        return all.toString();
    }

    private static void walkers(FingerSaysFar x, StringBuilder all) {
        for (int walker = 0; walker < 7; walker++) {
            all.append(" walker");
            for (int what : new int[] {3, 4, 5, 7, 8}) {
                all.append(' ').append(x.of(walker, what));
            }
        }
        for (int what = 0; what <= 3; what++) {
            all.append(' ').append(x.led(what));
        }
    }

    private static String shelves(FingerSaysFar x) {
        StringBuilder all = new StringBuilder();
        for (int shelf = 0; shelf <= 5; shelf++) {
            all.append(" shelf ").append(x.taken(shelf, 0));
            // a row's sort is told by the one that it goes with
            for (int i = 0; i < 8; i++) {
                all.append(' ').append(x.element(shelf, i));
            }
            for (int other = 0; other <= 5; other++) {
                all.append(' ').append(x.shift(shelf, 0, other, 0, 0));
            }
        }
        return all.toString();
    }

    private static String undoneAndBack(FingerSaysFar x) {
        StringBuilder all = new StringBuilder();
        int[] answers = {0, 0, 0};
        for (int i = 0; i < 41 && answers[0] >= 0; i++) {
            answers[0] = x.redo();
            all.append(' ').append(answers[0]);
        }
        all.append(' ').append(x.of(0, 6)).append(' ').append(x.of(0, 2));
        for (int i = 0; i < 41 && answers[1] >= 0; i++) {
            answers[1] = x.undo();
            all.append(' ').append(answers[1]).append(' ').append(x.of(1, 0)).append(x.of(13, 0)).append(x.of(26, 0));
        }
        all.append(' ').append(x.back());
        walkers(x, all);
        return all.toString();
    }

    private static String lawAndTape(FingerSaysFar x) {
        StringBuilder all = new StringBuilder();
        for (int i = 0; i < 2; i++) {
            for (int ft : new int[] {1, 1000, 1013, 13001, 26014, 50051}) {
                all.append(' ').append(x.step(ft, 0)).append(' ').append(x.step(ft, 1));
            }
            all.append(' ').append(x.law());
        }
        return all.toString();
    }

    private static String told(FingerSaysFar x, int part) {
        return part == 0 ? numbers(x) : part == 1 ? shelves(x) : part == 2 ? undoneAndBack(x) : lawAndTape(x);
    }

    private static final Map<String, String> KNOWN = new HashMap<>();

    private static void leavesAll(Moor moor, Call call) {
        for (int part = 0; part < 4; part++) {
            int one = part;
            String before = KNOWN.computeIfAbsent(moor + " " + part, k -> told(moor.made(), one));
            FingerSaysFar x = moor.made();
            call.on(x);
            alike(told(x, part), before);
        }
    }

    private static void refused(Moor moor, long answer, Call call) {
        due(call.on(moor.made()), answer);
        leavesAll(moor, call);
    }

    private static void rich(long answer, Call call) {
        refused(Moor.RICH, answer, call);
    }

    private static void full(long answer, Call call) {
        refused(Moor.FULL_UP, answer, call);
    }

    // ---- refused calls, by promises

    static void p02_refusedPostsChangeNothing() {
        rich(BAD, x -> x.post(144));
        rich(BAD, x -> x.post(-1));
        full(FULL, x -> x.post(9));
    }

    static void p03_refusedWalkersChangeNothing() {
        rich(BAD, x -> x.walker(10));
        full(FULL, x -> x.walker(9));
    }

    static void p04_refusedRowsOfWalkersChangeNothing() {
        rich(BAD, x -> x.walkers(6, 0, 1));
        rich(BAD, x -> x.walkers(2, 0, 7));
        rich(KIND, x -> x.walkers(4, 0, 1));
        rich(KIND, x -> x.walkers(1, 0, 1));
        rich(0, x -> x.walkers(0, 0, 1));
        rich(0, x -> x.walkers(2, 3, 1));
        full(0, x -> x.walkers(0, 0, 1));
    }

    static void p05_refusedMendsChangeNothing() {
        rich(VOID, x -> x.mend(144, 0, 1));
        rich(VOID, x -> x.mend(3, 1, 1));
        rich(VOID, x -> x.mend(0, 0, 10));
        rich(VOID, x -> x.mend(0, 3, -10));
        rich(VOID, x -> x.mend(0, 5, 0));
        rich(VOID, x -> x.mend(0, 7, 5));
        rich(VOID, x -> x.mend(0, 8, 5));
        rich(VOID, x -> x.mend(1, 6, 5));
        rich(VOID, x -> x.mend(0, -1, 5));
        // the same number: no change either, and those undone can still be done again
        rich(4, x -> x.mend(1, 0, 4));
        rich(0, x -> x.mend(0, 6, 0));
    }

    static void p06_askingForNumbersChangesNothing() {
        rich(VOID, x -> x.of(0, 9));
        rich(VOID, x -> x.of(2, 3));
    }

    static void p07_refusedBytesChangeNothing() {
        rich(BAD, x -> x.feed(-1));
        rich(BAD, x -> x.feed(256));
        full(FULL, x -> x.feed('1'));
    }

    static void p09_refusedStepsChangeNothing() {
        rich(BAD, x -> x.step(2, 0));
        rich(BAD, x -> x.step(1, 2));
    }

    static void p10_refusedArmsChangeNothing() {
        rich(BAD, x -> x.arm(2));
        rich(BAD, x -> x.arm(30));
    }

    static void p11_refusedWaysChangeNothing() {
        rich(BAD, x -> x.way(144, 0, 0));
        rich(NOT, x -> x.way(3, 0, 100));
    }

    static void p12_refusedReachesChangeNothing() {
        rich(BAD, x -> x.reach(0, 0, 1000, 0));
    }

    static void p13_refusedPairsOfWalkersChangeNothing() {
        rich(BAD, x -> x.together(3, 11));
    }

    static void p14_nobodyElseChangesNothing() {
        rich(BAD, x -> x.withWhom(144, 0));
        refused(Moor.BARE, NOT, x -> x.withWhom(3, 0));
    }

    static void p15_refusedMeetingsChangeNothing() {
        rich(BAD, x -> x.meet(3, 0, 0));
    }

    static void p16_noLoadInTimeChangesNothing() {
        rich(NOT, x -> x.carry(143, 0, 3));
        rich(BAD, x -> x.carry(143, 0, 10000));
    }

    static void p17_noHeartInTimeChangesNothing() {
        rich(NO_HEART, x -> x.light(143, 0, 3));
        rich(VOID, x -> x.light(143, 0, 10000));
    }

    static void p18_notTurningBackChangesNothing() {
        rich(NOT, x -> x.backFrom(50051, 0, 143));
        rich(BAD, x -> x.backFrom(50051, 0, 144));
    }

    static void p19_refusedRoundsChangeNothing() {
        rich(BAD, x -> x.round(8, 0, -1));
        rich(NOT, x -> x.round(7, 0, 3));
        full(STATE, x -> x.round(255, 0, -1));
    }

    static void p20_refusedHeartsChangeNothing() {
        rich(VOID, x -> x.hearts(0, 10000, 0));
        rich(NO_HEART, x -> x.hearts(0, 9999, 1));
    }

    static void p21_refusedPairsChangeNothing() {
        rich(BAD, x -> x.pairs(0, -1));
    }

    static void p22_noNextPostChangesNothing() {
        rich(BAD, x -> x.next(0, 2));
        refused(Moor.BARE, NOT, x -> x.next(0, 0));
    }

    static void p23_refusedWeathersChangeNothing() {
        rich(BAD, x -> x.weathers(0, 10000));
    }

    static void p24_refusedJudgesChangeNothing() {
        rich(BAD, x -> x.judge(3, 2));
        rich(NOTHING, x -> x.judge(0, 0));
        rich(KIND, x -> x.judge(4, 0));
    }

    static void p25_refusedBooksChangeNothing() {
        rich(VOID, x -> x.byHeart(4, 0, 0));
        rich(NO_HEART, x -> x.byHeart(3, 0, 1));
    }

    static void p26_nobodysBookChangesNothing() {
        rich(NOTHING, x -> x.whose(0));
        rich(KIND, x -> x.whose(1));
    }

    static void p28_noLongestChangesNothing() {
        rich(BAD, x -> x.longest(2, 0));
        refused(Moor.BARE, NOT, x -> x.longest(0, 0));
    }

    static void p29_refusedDrawsChangeNothing() {
        rich(BAD, x -> x.drawn(1, 51, 0));
    }

    static void p30_refusedStepsInDeedChangeNothing() {
        rich(BAD, x -> x.goes(2, 0));
        rich(BAD, x -> x.goes(0, 4));
        rich(STATE, x -> x.goes(1, 3));
        refused(Moor.BARE, STATE, x -> x.goes(0, 0));
    }

    static void p31_refusedLoadsPutDownChangeNothing() {
        rich(BAD, x -> x.putDown(2));
        rich(0, x -> x.putDown(0));
    }

    static void p32_refusedLoadsChangeNothing() {
        rich(BAD, x -> x.takes(0, 0));
        rich(BAD, x -> x.takes(0, 10));
        rich(STATE, x -> x.takes(1, 1));
    }

    static void p33_refusedCheersChangeNothing() {
        rich(VOID, x -> x.cheer(2));
    }

    static void p34_askingWhatIsLedChangesNothing() {
        rich(BAD, x -> x.led(4));
    }

    static void p36_noImageChangesNothing() {
        refused(Moor.BARE, STATE, x -> x.back());
    }

    static void p37_nothingToUndoChangesNothing() {
        refused(Moor.BARE, STATE, x -> x.undo());
    }

    static void p38_nothingToDoAgainChangesNothing() {
        refused(Moor.BARE, STATE, x -> x.redo());
    }

    static void p39_refusedBodiesChangeNothing() {
        rich(BAD, x -> x.body(8));
        full(FULL, x -> x.body(0));
    }

    static void p41_askingForTheTraceChangesNothing() {
        rich(BAD, x -> x.trace(14));
    }

    static void p42_refusedKeepsChangeNothing() {
        rich(BAD, x -> x.keep(6, 0));
        rich(BAD, x -> x.keep(1, 8));
        rich(BAD, x -> x.keep(2, -2));
    }

    static void p43_refusedRowsChangeNothing() {
        rich(BAD, x -> x.row(6, INTS, 1));
        rich(BAD, x -> x.row(2, 5, 1));
        rich(BAD, x -> x.row(2, INTS, 61));
        rich(SIZE, x -> x.row(2, INTS, -1));
    }

    static void p44_refusedElementsChangeNothing() {
        rich(BAD, x -> x.put(6, 0, 1));
        rich(NOTHING, x -> x.put(0, 0, 1));
        rich(KIND, x -> x.put(1, 0, 1));
        rich(PLACE, x -> x.put(2, 5, 1));
    }

    static void p45_askingForAnElementChangesNothing() {
        rich(Long.MIN_VALUE, x -> x.element(2, 5));
    }

    static void p46_refusedShiftsChangeNothing() {
        rich(BAD, x -> x.shift(2, 0, 6, 0, 1));
        rich(NOTHING, x -> x.shift(2, 0, 0, 0, 1));
        rich(KIND, x -> x.shift(2, 0, 4, 0, 1));
        rich(PLACE, x -> x.shift(2, 0, 2, 3, 3));
        rich(PLACE, x -> x.shift(2, 1, 2, 0, -1));
    }

    static void p47_refusedKindsChangeNothing() {
        rich(BAD, x -> x.taken(1, 8));
        rich(KIND, x -> x.taken(1, 2));
        rich(NOTHING, x -> x.taken(0, 0));
    }

    static void p48_refusedCountsChangeNothing() {
        rich(BAD, x -> x.count(6));
    }

    // ---- calls that only ask

    /** Promises 9 to 29, and those that tell what is: 6, 34, 41, 45, 47, 48. */
    static void p29_askingChangesNothing() {
        Call[] asking = {x -> x.step(1, 0), x -> x.arm(1), x -> x.way(143, 0, 5), x -> x.reach(5, 1, 50, 1),
            x -> x.together(143, 1), x -> x.withWhom(143, 0), x -> x.meet(143, 1, 0), x -> x.carry(143, 1, 500),
            x -> x.light(143, 1, 500), x -> x.backFrom(143, 0, 7), x -> x.round(7, 1, 1), x -> x.hearts(1, 40, 1),
            x -> x.pairs(1, 40), x -> x.next(1, 0), x -> x.weathers(1, 60), x -> x.judge(3, 1),
            x -> x.byHeart(3, 1, 0), x -> x.whose(3), x -> x.stumps(), x -> x.longest(1, 1), x -> x.drawn(5, 50, 0),
            x -> x.of(1, 7), x -> x.led(1), x -> x.trace(2), x -> x.element(2, 1), x -> x.taken(1, 1), x -> x.count(3)};
        for (Call call : asking) {
            leavesAll(Moor.RICH, call);
        }
    }
}
