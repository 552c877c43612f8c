/** For each promise of the document calls with the answers that are due, worked out by hand from its words. */
public final class PromiseTest {
    private static final int BAD = -1, NOT = -2, FULL = -3, STATE = -5, VOID = -2000000000;
    private static int wrong = 0;

    private static void due(int promise, String what, long got, long want) {
        if (got != want) {
            wrong++;
            System.out.println("promise " + promise + ": " + what + " answered " + got + ", due is " + want);
        }
    }

    private static int feedLaw(FingerSaysFar x, String text) {
        for (int i = 0; i < text.length(); i++) {
            x.feed(text.charAt(i));
        }
        return x.law();
    }

    private static FingerSaysFar walkersOf(int... hearts) {
        FingerSaysFar x = new FingerSaysFar();
        for (int heart : hearts) {
            x.walker(heart);
        }
        return x;
    }

    private static void fillRow(FingerSaysFar x, int shelf, int sort, long... values) {
        x.row(shelf, sort, values.length);
        for (int i = 0; i < values.length; i++) {
            x.put(shelf, i, values[i]);
        }
    }

    public static void main(String[] args) {
        newObject();
        posts();
        walkerAlone();
        walkersFromRow();
        mendAndOf();
        tapeAndLaw();
        faults();
        lawValues();
        stepAndArm();
        uphill();
        slowSteps();
        ways();
        reaches();
        twoWalkers();
        meeting();
        inTime();
        turningBack();
        rounds();
        heartsFromArms();
        nextPost();
        allWeathers();
        books();
        stumpsAndLongest();
        draws();
        deeds();
        images();
        undoing();
        acts();
        shelves();
        shifting();
        castsAndCounts();
        System.out.println(wrong == 0 ? "all promises hold" : wrong + " answers are not as due");
        System.exit(wrong == 0 ? 0 : 1);
    }

    private static void newObject() {
        FingerSaysFar x = new FingerSaysFar();
        for (int cell = 0; cell < 144; cell++) {
            due(1, "height of " + cell, x.of(cell, 0), 0);
        }
        for (int what = 0; what <= 5; what++) {
            due(1, "count " + what, x.count(what), 0);
        }
        for (int shelf = 0; shelf <= 5; shelf++) {
            due(1, "shelf " + shelf, x.put(shelf, 0, 1), -11);
        }
        for (int what = 0; what <= 3; what++) {
            due(1, "led " + what, x.led(what), 0);
        }
        due(1, "weather", x.of(0, 6), 0);
        due(1, "back", x.back(), STATE);
        due(1, "undo", x.undo(), STATE);
        due(1, "redo", x.redo(), STATE);
        due(1, "trace", x.trace(0), BAD);
    }

    private static void posts() {
        FingerSaysFar x = new FingerSaysFar();
        for (int ft : new int[] {-1, -1000, 144, 999, 144000, 143144, Integer.MIN_VALUE, Integer.MAX_VALUE}) {
            due(2, "post " + ft, x.post(ft), BAD);
        }
        for (int i = 0; i < 8; i++) {
            due(2, "post", x.post(143000 + i), i);
        }
        due(2, "the ninth", x.post(0), FULL);
        due(2, "the ninth, not as said", x.post(144), BAD);
        due(2, "cell", x.of(7, 1), 143);
        due(2, "to", x.of(7, 2), 7);
        due(2, "count", x.count(0), 8);
    }

    private static void walkerAlone() {
        FingerSaysFar x = new FingerSaysFar();
        due(3, "below", x.walker(-10), BAD);
        due(3, "above", x.walker(10), BAD);
        for (int i = 0; i < 6; i++) {
            due(3, "walker", x.walker(i - 3), i);
        }
        due(3, "the seventh", x.walker(9), FULL);
        due(3, "the seventh, not as said", x.walker(10), BAD);
        int[] first = {-3, 0, 5, 0, 0, 0};
        for (int what = 3; what <= 8; what++) {
            due(3, "number " + what, x.of(0, what), first[what - 3]);
        }
    }

    private static void walkersFromRow() {
        FingerSaysFar x = new FingerSaysFar();
        due(4, "no shelf", x.walkers(6, 0, 1), BAD);
        due(4, "none of them", x.walkers(0, 0, 0), BAD);
        due(4, "seven", x.walkers(0, 0, 7), BAD);
        due(4, "missing", x.walkers(0, 0, 1), 0);
        x.body(0);
        x.keep(1, 0);
        due(4, "a heart", x.walkers(1, 0, 1), -12);
        x.row(1, 1, 3);
        due(4, "shorts", x.walkers(1, 0, 1), -12);
        due(4, "shorts, and no number", x.walkers(1, 0, 7), BAD);
        fillRow(x, 0, 0, 9, 9, 9, -9, 0, 1, 0, 0, 0, 1, 2);
        due(4, "below 0", x.walkers(0, -1, 2), 0);
        due(4, "far below 0", x.walkers(0, Integer.MIN_VALUE, 2), 0);
        due(4, "behind the end", x.walkers(0, 11, 2), 0);
        due(4, "far behind the end", x.walkers(0, Integer.MAX_VALUE, 2), 0);
        due(4, "a three that ends", x.walkers(0, 9, 2), 0);
        due(4, "shoes 0", x.walkers(0, 6, 2), 0);
        due(4, "up to shoes 0", x.walkers(0, 0, 6), 2);
        due(4, "heart", x.of(1, 3), -9);
        due(4, "load", x.of(0, 4), 9);
        due(4, "shoes", x.of(1, 5), 1);
        fillRow(x, 0, 0, 10, 1, 1);
        due(4, "heart 10", x.walkers(0, 0, 1), 0);
        fillRow(x, 0, 0, 1, 10, 1);
        due(4, "load 10", x.walkers(0, 0, 1), 0);
        fillRow(x, 0, 0, 1, 1, 10);
        due(4, "shoes 10", x.walkers(0, 0, 1), 0);
        fillRow(x, 0, 0, 1, 2, 3, 1, 2, 3, 1, 2, 3, 1, 2, 3, 1, 2, 3);
        due(4, "as many as told", x.walkers(0, 3, 1), 1);
        due(4, "till full", x.walkers(0, 0, 5), 3);
        due(4, "full", x.walkers(0, 0, 1), 0);
        due(4, "count", x.count(1), 6);
    }

    private static void mendAndOf() {
        FingerSaysFar x = walkersOf(4);
        x.post(5006);
        int[][] sound = {{143, 0, 0, 9}, {0, 1, 5, 143}, {0, 2, 6, 0}, {0, 3, 4, -9}, {0, 4, 0, 9}, {0, 5, 5, 1},
            {0, 6, 0, 9}};
        for (int[] s : sound) {
            due(5, "what " + s[1], x.mend(s[0], s[1], s[3]), s[2]);
            due(6, "what " + s[1], x.of(s[0], s[1]), s[3]);
        }
        due(5, "changes", x.count(3), 7);
        int[][] bad = {{-1, 0, 1}, {144, 0, 1}, {0, 0, -1}, {0, 0, 10}, {1, 1, 0}, {-1, 1, 0}, {0, 1, 144}, {0, 1, -1},
            {1, 2, 0}, {0, 2, 144}, {0, 2, -1}, {1, 3, 0}, {0, 3, -10}, {0, 3, 10}, {-1, 4, 0}, {0, 4, -1}, {0, 4, 10},
            {0, 5, 0}, {0, 5, 10}, {1, 6, 0}, {-1, 6, 0}, {0, 6, -1}, {0, 6, 10}, {0, 7, 0}, {0, 8, 0}, {0, -1, 0}};
        for (int[] b : bad) {
            due(5, "mend " + b[0] + " " + b[1] + " " + b[2], x.mend(b[0], b[1], b[2]), VOID);
        }
        due(5, "changes still", x.count(3), 7);
        for (int[] b : new int[][] {{144, 0}, {-1, 0}, {1, 1}, {1, 2}, {1, 3}, {-1, 4}, {1, 5}, {1, 6}, {1, 7}, {1, 8},
            {0, 9}, {0, -1}}) {
            due(6, "of " + b[0] + " " + b[1], x.of(b[0], b[1]), VOID);
        }
        x.goes(0, 1);
        due(6, "stands", x.of(0, 7), 1);
        due(6, "minutes", x.of(0, 8), 36);
    }

    private static void tapeAndLaw() {
        FingerSaysFar x = walkersOf(0);
        due(7, "-1", x.feed(-1), BAD);
        due(7, "256", x.feed(256), BAD);
        for (int i = 1; i <= 120; i++) {
            due(7, "feed", x.feed(i == 120 ? '7' : i % 2 == 1 ? '1' : '+'), i);
        }
        due(7, "full", x.feed('1'), FULL);
        due(7, "full, not as said", x.feed(256), BAD);
        due(7, "count", x.count(2), 120);
        due(8, "law", x.law(), 1);
        due(8, "the tape is empty", x.count(2), 0);
        due(8, "59 ones and a seventeen", x.step(1, 0), 59 + 17);
        x.feed(0);
        due(8, "byte 0", x.law(), -100);
        due(8, "the tape is empty", x.count(2), 0);
        due(8, "the law stays", x.step(1, 0), 59 + 17);
        due(8, "no text", x.law(), -100);
        x.feed('8');
        x.feed(255);
        due(8, "byte 255", x.law(), -101);
        due(8, "the law stays", x.step(1, 0), 59 + 17);
    }

    private static void faults() {
        String[] texts = {"1;", "1;;2", ";1", "1?", "1?2?3", "?1", "1<2<3", "1<2=3", "(1<2)<3", "(1;2)", "(1?2)", "()",
            "(1", "1)", "12345", "1234u", "u1", "uk", "1 ", " 1", "x", "1+", "1+*2", "*2", "--1", "1--1", "!!!!!!1",
            "!!!!!!!1", "((((((1))))))", "(((((((1", "-(-(-(1)))", "-(-(-(-1)))", "-(-(-(1+-1)))", "1&2|3<4&5<6", "K",
            "1<2&3<4?5;6", "(1|2>3)=4", "(1<2<3)", "1?2;3?4;5", "1?2;3?", "0000", "00000", "1|", "!", "-", "1!2", "(-!k",
            "------1------1", "((((((1)+(1))))))", "(((((-1-1)))))", "-(-(-(1)+-1))"};
        int[] places = {2, 2, 0, 2, 3, 0, 3, 3, -1, 2, 2, 1,
            2, 1, 4, 4, 1, 1, 1, 0, 0, 2, 2, 0, -1, -1, -1,
            6, -1, 6, -1, 6, 8, -1, 0,
            -1, -1, 4, -1, 6, -1, 4, 2, 1, 1, 1, 4,
            -1, -1, -1, -1};
        for (int i = 0; i < texts.length; i++) {
            FingerSaysFar x = new FingerSaysFar();
            due(8, "fault of " + texts[i], feedLaw(x, texts[i]), places[i] < 0 ? 1 : -100 - places[i]);
        }
    }

    private static void lawValues() {
        // a step from height 2 up to height 7 of heart -3, load 4, shoes 6 in weather 1
        FingerSaysFar x = walkersOf(-3);
        x.mend(0, 0, 2);
        x.mend(1, 0, 7);
        x.mend(0, 4, 4);
        x.mend(0, 5, 6);
        x.mend(0, 6, 1);
        due(9, "without a text", x.step(1, 0), 10 + 15 + 4 + 1 + 3 - 6);
        due(9, "without a text, down", x.step(1000, 0), 10 + 4 + 1 + 3 - 6);
        String[] texts = {"u", "20+k", "l", "s", "w", "h", "0", "100", "99", "0-5", "7-2-1", "20/3*2", "20%7*2",
            "50+-7/2", "50+-7%4", "50/0", "9+5%0", "5|0", "0|0", "3&2", "3&0", "2<3", "3<3", "3=3", "4>3",
            "5+(5|0)", "5+(0|5)", "5+(0|0)", "5+(3&2)", "5+(3&0)", "5+(0&3)", "5+(1&1)", "5+(2<3)", "5+(3<3)", "5+(4<3)",
            "5+(3=3)", "5+(3=4)", "5+(4>3)", "5+(3>3)", "5+(2>3)", "5+7/0", "5+7%0", "0|0|3?4;5", "0?1;0|2?0|6&0|7;5",
            "1?((((((8))))));5", "1?!!!!!!8+7;5", "!5+4", "!0+4",
            "1+2*3", "(1+2)*3", "2*3<7&1", "1|0&0", "-k", "--k+5", "!k*9+8", "0?9", "0?9;8", "5?9;8", "k>0?9;u>3?8;7",
            "0?1;0?2;3", "9999*9999*9999*9999", "1-9999*9999*9999", "4+3?6", "8&9", "(5)", "(k<0)*(l+s)", "0007+8",
            "(0-2147*1000*1000-4836*100-48)/-1+20", "(0-2147*1000*1000-4836*100-48)%-1+20",
            "5+(1|1&0)", "5+(0&1|1)", "0?9;0?8", "20"};
        int[] values = {5, 17, 4, 6, 1, 7, 1, 99, 99, 1, 4, 12, 12,
            47, 47, 1, 9, 1, 1, 1, 1, 1, 1, 1, 1,
            6, 6, 5, 6, 5, 5, 6, 6, 5, 5,
            6, 5, 6, 5, 5, 5, 5, 4, 1,
            8, 8, 4, 5,
            7, 9, 1, 1, 3, 2, 8, 1, 8, 9, 8,
            3, 1, 1, 6, 1, 5, 10, 15,
            99, 20,
            6, 6, 1, 20};
        values[60] = held(9999 * 9999 * 9999 * 9999);
        values[61] = held(1 - 9999 * 9999 * 9999);
        values[67] = held((0 - 2147 * 1000 * 1000 - 4836 * 100 - 48) / -1 + 20);
        for (int i = 0; i < texts.length; i++) {
            due(8, "law " + texts[i], feedLaw(x, texts[i]), 1);
            due(9, "step by " + texts[i], x.step(1, 0), values[i]);
        }
        due(8, "fault", feedLaw(x, "("), -101);
        due(9, "the former law still", x.step(1, 0), 20);
    }

    private static int held(int v) {
        return v < 1 ? 1 : v > 99 ? 99 : v;
    }

    private static void stepAndArm() {
        FingerSaysFar x = walkersOf(0, 9);
        for (int ft : new int[] {0, 2, 13, 11012, 12011, 24, -1, 143144, 144143, 143155, 1001}) {
            due(9, "step " + ft, x.step(ft, 0), BAD);
        }
        for (int ft : new int[] {1, 12, 1000, 12000, 143142, 143131, 131143, 142143}) {
            due(9, "step " + ft, x.step(ft, 0), 5);
        }
        due(9, "nobody", x.step(1, 2), BAD);
        due(9, "below", x.step(1, -1), BAD);
        due(9, "held at 1", x.step(1, 1), 1);
        x.mend(1, 0, 9);
        due(9, "up", x.step(1, 0), 32);
        due(9, "down", x.step(1000, 0), 5);
        x.post(2);
        due(10, "around the hill", x.arm(0), 20);
        due(10, "for the other", x.arm(1), 4);
        x.mend(0, 2, 0);
        due(10, "to its own cell", x.arm(0), 0);
        for (int aw : new int[] {-1, 2, 10, 11, -10, Integer.MIN_VALUE, Integer.MAX_VALUE}) {
            due(10, "arm " + aw, x.arm(aw), BAD);
        }
    }

    /** Arms, ways, meetings and rounds where a step back is not as long as a step on. */
    private static void uphill() {
        FingerSaysFar x = walkersOf(0, 1);
        for (int cell = 0; cell < 144; cell++) {
            x.mend(cell, 0, Math.min(9, cell % 12));
        }
        x.post(3);
        x.post(9006);
        due(10, "up", x.arm(0), 3 * 8);
        due(10, "up, the other", x.arm(1), 3 * 7);
        due(10, "down", x.arm(10), 3 * 5);
        due(10, "down, the other", x.arm(11), 3 * 4);
        due(13, "up", x.together(3, 10), 24);
        due(15, "up and down", x.meet(9, 1, 0), 3);
        due(15, "up and down", x.meet(9, 1, 1), 24);
        due(15, "down and up", x.meet(9000, 1, 0), 4);
        due(15, "down and up", x.meet(9000, 1, 1), 28);
        due(19, "up and down", x.round(1, 0, -1), 0);
        due(19, "up and down", x.round(3002, 0, -1), 6 * 8 + 6 * 5);
        x.post(3000);
        due(19, "order", x.round(3, 0, 0), 0);
        due(19, "there and back by another post", x.round(15006, 0, -1), 5 + 6 * 8 + 6 * 5 + 5);
        due(11, "up in all", x.way(9, 0, -3), 9);
        due(20, "the second post", x.hearts(11, 12, 0), 1);
        due(20, "the second post", x.hearts(11, 12, 1), 1);
        due(20, "0 minutes", x.hearts(11, 0, 0), 0);
        due(21, "the second post", x.pairs(11, 12), 9);
        due(21, "0 minutes", x.pairs(11, 0), 0);
        due(23, "the second post", x.weathers(11, 15), 3);
        due(23, "0 minutes", x.weathers(11, 0), 0);
        due(29, "one post more", x.drawn(1, 1, 0), x.drawn(1, 1, 1));
    }

    /** Steps of 99 minutes, the most that a ring of waiting cells must hold, and of 1 beside them. */
    private static void slowSteps() {
        FingerSaysFar x = walkersOf(0);
        feedLaw(x, "99");
        due(11, "across", x.way(143, 0, -1), 22 * 99);
        due(11, "back", x.way(143000, 0, -1), 22 * 99);
        due(11, "back to 0", x.way(143000, 0, 22), 0);
        due(12, "999", x.reach(0, 0, 999, 0), 66);
        feedLaw(x, "h=9?99;1");
        // walls with one gap each make a way through all the moor
        for (int y = 1; y < 12; y += 2) {
            for (int i = 0; i < 11; i++) {
                x.mend(12 * y + (y % 4 == 1 ? i : i + 1), 0, 9);
            }
        }
        due(11, "through the gaps", x.way(120, 0, -1), 6 * 11 + 5 * 2);
        due(11, "through the gaps", x.way(120, 0, -2), 76);
        due(11, "cell behind 76", x.way(120, 0, 76), 120);
    }

    private static void ways() {
        FingerSaysFar x = walkersOf(0);
        x.mend(1, 0, 9);
        int[] around = {0, 12, 13, 14, 2};
        for (int k = 0; k < 5; k++) {
            due(11, "cell behind " + k, x.way(2, 0, k), around[k]);
        }
        due(11, "too many", x.way(2, 0, 5), NOT);
        due(11, "far too many", x.way(2, 0, Integer.MAX_VALUE), NOT);
        due(11, "minutes", x.way(2, 0, -1), 20);
        due(11, "steps", x.way(2, 0, -2), 4);
        due(11, "up", x.way(2, 0, -3), 0);
        due(11, "up the hill", x.way(1, 0, -3), 9);
        due(11, "down the hill", x.way(1000, 0, -3), 0);
        due(11, "k below", x.way(2, 0, -4), BAD);
        due(11, "nobody", x.way(2, 1, 0), BAD);
        due(11, "no cell", x.way(144, 0, 0), BAD);
        due(11, "standing: minutes", x.way(7007, 0, -1), 0);
        due(11, "standing: steps", x.way(7007, 0, -2), 0);
        due(11, "standing: cell", x.way(7007, 0, 0), 7);
        due(11, "standing: next", x.way(7007, 0, 1), NOT);
        due(11, "of like ones", x.way(26039, 0, 1), 27);
        due(11, "of like ones back", x.way(39026, 0, 1), 27);
        // up 1 and 1 is as dear as 2 at once, and the least cell counts
        due(8, "law", feedLaw(x, "1+(u>0)*u"), 1);
        due(11, "goes over the hill now", x.way(2, 0, 1), 12);
        x.mend(13, 0, 9);
        due(11, "farther around", x.way(2, 0, 2), 24);
        x.mend(1, 0, 2);
        due(11, "like: least first", x.way(2, 0, 1), 1);
        due(11, "over: up", x.way(2, 0, -3), 2);
    }

    private static void reaches() {
        FingerSaysFar x = walkersOf(0);
        due(12, "0 minutes", x.reach(66, 0, 0, 0), 1);
        due(12, "0 minutes, farthest", x.reach(66, 0, 0, 1), 66);
        due(12, "4", x.reach(66, 0, 4, 0), 1);
        due(12, "5", x.reach(66, 0, 5, 0), 5);
        due(12, "5, farthest", x.reach(66, 0, 5, 1), 54);
        due(12, "10", x.reach(66, 0, 10, 0), 13);
        due(12, "10, farthest", x.reach(66, 0, 10, 1), 42);
        due(12, "999", x.reach(143, 0, 999, 0), 144);
        due(12, "999, farthest", x.reach(143, 0, 999, 1), 0);
        due(12, "1000", x.reach(0, 0, 1000, 0), BAD);
        due(12, "-1", x.reach(0, 0, -1, 0), BAD);
        due(12, "what 2", x.reach(0, 0, 1, 2), BAD);
        due(12, "what -1", x.reach(0, 0, 1, -1), BAD);
        due(12, "cell 144", x.reach(144, 0, 1, 0), BAD);
        due(12, "cell -1", x.reach(-1, 0, 1, 0), BAD);
        due(12, "nobody", x.reach(0, 1, 1, 0), BAD);
        x.mend(1, 0, 9);
        due(12, "down is cheap", x.reach(1, 0, 5, 0), 4);
        due(12, "up is dear", x.reach(0, 0, 5, 0), 2);
    }

    private static void twoWalkers() {
        FingerSaysFar x = walkersOf(0, 3, -2, 3);
        due(13, "slower one", x.together(3, 1), 15);
        due(13, "either way", x.together(3, 10), 15);
        due(13, "the same one", x.together(3, 11), BAD);
        due(13, "nobody", x.together(3, 4), BAD);
        due(13, "nobody", x.together(3, 40), BAD);
        due(13, "below", x.together(3, -1), BAD);
        due(13, "no cell", x.together(144, 1), BAD);
        due(13, "standing", x.together(5005, 1), 0);
        due(14, "with whom", x.withWhom(3, 0), 1);
        due(14, "of like ones the least", x.withWhom(3, 2), 0);
        due(14, "with his like", x.withWhom(3, 1), 3);
        due(14, "standing", x.withWhom(5005, 0), 1);
        due(14, "nobody", x.withWhom(3, 4), BAD);
        due(14, "no cell", x.withWhom(-1, 0), BAD);
        FingerSaysFar alone = walkersOf(1);
        due(14, "nobody else", alone.withWhom(3, 0), NOT);
        due(14, "no cell, nobody else", alone.withWhom(144, 0), BAD);
        // one is slow uphill, the other downhill: together they are slow on both
        FingerSaysFar hill = walkersOf(1, 2);
        due(8, "law", feedLaw(hill, "u*(3-k*2)>0?50;9"), 1);
        for (int y = 0; y < 12; y++) {
            hill.mend(12 * y + 1, 0, 3);
        }
        due(11, "one", hill.way(2, 0, -1), 59);
        due(11, "other", hill.way(2, 1, -1), 59);
        due(13, "both", hill.together(2, 1), 100);
    }

    private static void meeting() {
        FingerSaysFar x = walkersOf(0, 0, 4);
        due(15, "where", x.meet(4, 1, 0), 2);
        due(15, "when", x.meet(4, 1, 1), 10);
        due(15, "of like ones the least", x.meet(3, 1, 0), 1);
        due(15, "then", x.meet(3, 1, 1), 10);
        due(15, "a faster one", x.meet(5, 2, 0), 0);
        due(15, "then", x.meet(5, 2, 1), 5);
        due(15, "either way", x.meet(5, 20, 0), 4);
        due(15, "the same cell", x.meet(77077, 1, 0), 77);
        due(15, "the same cell", x.meet(77077, 1, 1), 0);
        due(15, "what", x.meet(4, 1, 2), BAD);
        due(15, "the same one", x.meet(4, 0, 0), BAD);
        due(15, "nobody", x.meet(4, 3, 0), BAD);
        due(15, "no cell", x.meet(144, 1, 0), BAD);
    }

    private static void inTime() {
        FingerSaysFar x = walkersOf(0);
        due(16, "all", x.carry(2, 0, 28), 9);
        due(16, "some", x.carry(2, 0, 17), 3);
        due(16, "none", x.carry(2, 0, 10), 0);
        due(16, "not", x.carry(2, 0, 9), NOT);
        due(16, "standing", x.carry(0, 0, 0), 9);
        due(16, "t -1", x.carry(2, 0, -1), BAD);
        due(16, "t 10000", x.carry(2, 0, 10000), BAD);
        due(16, "nobody", x.carry(2, 1, 9), BAD);
        due(16, "no cell", x.carry(144, 0, 9), BAD);
        due(17, "heavy", x.light(2, 0, 28), -9);
        due(17, "some", x.light(2, 0, 17), -3);
        due(17, "light", x.light(2, 0, 2), 4);
        due(17, "not", x.light(2, 0, 1), -99);
        due(17, "standing", x.light(0, 0, 0), -9);
        due(17, "t -1", x.light(2, 0, -1), VOID);
        due(17, "t 10000", x.light(2, 0, 10000), VOID);
        due(17, "nobody", x.light(2, 1, 9), VOID);
        due(17, "no cell", x.light(144, 0, 9), VOID);
        due(16, "his own load is as it was", x.of(0, 4), 0);
        due(17, "his own heart is as it was", x.of(0, 3), 0);
        due(8, "law", feedLaw(x, "l=7?2;k=-5|k=5?3;50"), 1);
        due(16, "not all lighter loads do", x.carry(2, 0, 5), 7);
        due(17, "not all lighter hearts do", x.light(2, 0, 6), -5);
    }

    private static void turningBack() {
        FingerSaysFar x = walkersOf(0);
        due(18, "to where he came from", x.backFrom(6, 0, 0), 3);
        due(18, "of odd steps", x.backFrom(5, 0, 0), 2);
        due(18, "the same cell", x.backFrom(6, 0, 6), 6);
        due(18, "not even at first", x.backFrom(6, 0, 13 + 132 - 12), NOT);
        due(18, "just at first", x.backFrom(6, 0, 72), 0);
        due(18, "beside the end", x.backFrom(6, 0, 5), 5);
        due(18, "behind the end", x.backFrom(6, 0, 7), NOT);
        due(18, "standing", x.backFrom(4004, 0, 4), 0);
        due(18, "standing", x.backFrom(4004, 0, 5), NOT);
        due(18, "other", x.backFrom(6, 0, 144), BAD);
        due(18, "other", x.backFrom(6, 0, -1), BAD);
        due(18, "nobody", x.backFrom(6, 1, 0), BAD);
        due(18, "no cell", x.backFrom(6144, 0, 0), BAD);
        // from the third cell back up the hill is dear
        for (int y = 0; y < 12; y++) {
            x.mend(12 * y, 0, 9);
        }
        due(18, "back up the hill", x.backFrom(6, 0, 0), 0);
    }

    private static void rounds() {
        FingerSaysFar x = walkersOf(0);
        int[] cells = {5, 3, 1, 36, 3, 100};
        for (int cell : cells) {
            x.post(1000 * cell + 9);
        }
        due(19, "no posts", x.round(0, 0, -1), 0);
        due(19, "no posts", x.round(0, 0, 0), NOT);
        due(19, "one", x.round(1, 0, -1), 50);
        due(19, "three on a line", x.round(7, 0, -1), 50);
        due(19, "of like ones", x.round(7, 0, 0), 0);
        due(19, "of like ones", x.round(7, 0, 1), 1);
        due(19, "of like ones", x.round(7, 0, 2), 2);
        due(19, "a turn", x.round(9, 0, -1), 80);
        due(19, "a turn", x.round(11, 0, 0), 0);
        due(19, "a turn", x.round(11, 0, 2), 3);
        due(19, "the same cell", x.round(2018, 0, 0), 1);
        due(19, "the same cell", x.round(2018, 0, 1), 4);
        due(19, "five", x.round(31, 0, -1), 80);
        due(19, "five", x.round(31, 0, 4), 3);
        due(19, "too many steps", x.round(31, 0, 5), NOT);
        due(19, "six", x.round(63, 0, -1), STATE);
        due(19, "six, ahead of NOT", x.round(63, 0, 6), STATE);
        due(19, "six, k below", x.round(63, 0, -2), BAD);
        due(19, "no such post", x.round(64, 0, -1), BAD);
        due(19, "no such set", x.round(999, 0, -1), BAD);
        due(19, "nobody", x.round(1, 1, -1), BAD);
        due(19, "no cell", x.round(144001, 0, -1), BAD);
        due(19, "below", x.round(-1, 0, -1), BAD);
        x.post(0);
        x.post(0);
        due(19, "the eighth", x.round(128, 0, -1), 0);
        due(19, "set 256", x.round(256, 0, -1), BAD);
    }

    private static void heartsFromArms() {
        FingerSaysFar x = walkersOf(2);
        x.post(3);
        due(20, "one heart", x.hearts(0, 15, 0), 1);
        due(20, "which", x.hearts(0, 15, 1), 0);
        due(20, "held at 1", x.hearts(0, 3, 0), 6);
        due(20, "the least", x.hearts(0, 3, 1), 4);
        due(20, "none", x.hearts(0, 16, 0), 0);
        due(20, "none", x.hearts(0, 16, 1), -99);
        due(20, "a -1", x.hearts(0, -1, 0), VOID);
        due(20, "a 10000", x.hearts(0, 10000, 0), VOID);
        due(20, "a 9999", x.hearts(0, 9999, 0), 0);
        due(20, "what", x.hearts(0, 3, 2), VOID);
        due(20, "no post", x.hearts(10, 3, 0), VOID);
        due(20, "nobody", x.hearts(1, 3, 0), VOID);
        due(21, "pairs", x.pairs(0, 15), 10);
        due(21, "held at 1", x.pairs(0, 3), 6 + 5 + 4 + 3 + 2 + 1);
        due(21, "the slowest", x.pairs(0, 3 * (5 + 9 + 9)), 1);
        due(21, "none", x.pairs(0, 1), 0);
        due(21, "a -1", x.pairs(0, -1), BAD);
        due(21, "a 10000", x.pairs(0, 10000), BAD);
        due(21, "no post", x.pairs(10, 3), BAD);
        due(21, "nobody", x.pairs(1, 3), BAD);
        due(21, "as he was", x.of(0, 3) * 10 + x.of(0, 4), 20);
    }

    private static void nextPost() {
        FingerSaysFar x = walkersOf(0);
        due(22, "no posts", x.next(0, 0), NOT);
        due(22, "no posts", x.next(0, 1), NOT);
        due(22, "no posts, nobody", x.next(1, 0), BAD);
        due(22, "no posts, what", x.next(0, 2), BAD);
        x.post(0);
        due(22, "a stump parts nobody", x.next(0, 0), 0);
        due(22, "a stump parts nobody", x.next(0, 1), 19);
        x.post(1);
        x.post(7);
        due(22, "the first of like ones", x.next(0, 0), 1);
        due(22, "six are held at 1", x.next(0, 1), 6);
        x.mend(0, 4, 5);
        due(22, "with a load, one", x.next(0, 1), 1);
        due(22, "nobody", x.next(1, 0), BAD);
        due(22, "what", x.next(0, -1), BAD);
    }

    private static void allWeathers() {
        FingerSaysFar x = walkersOf(0);
        x.post(2);
        due(23, "fair", x.weathers(0, 10), 1);
        due(23, "some", x.weathers(0, 17), 15);
        due(23, "all", x.weathers(0, 28), 1023);
        due(23, "none", x.weathers(0, 9), 0);
        due(23, "t 9999", x.weathers(0, 9999), 1023);
        due(23, "t -1", x.weathers(0, -1), BAD);
        due(23, "t 10000", x.weathers(0, 10000), BAD);
        due(23, "nobody", x.weathers(1, 9), BAD);
        due(23, "no post", x.weathers(10, 9), BAD);
        x.mend(0, 6, 9);
        due(23, "whatever weather it is", x.weathers(0, 17), 15);
        due(23, "the weather stays", x.of(0, 6), 9);
        due(8, "law", feedLaw(x, "w=4|w=7?1;50"), 1);
        due(23, "bits", x.weathers(0, 2), 16 + 128);
    }

    private static void books() {
        FingerSaysFar x = walkersOf(0, 2, 0);
        x.post(2);
        x.post(3);
        due(24, "no shelf", x.judge(6, 0), BAD);
        due(24, "nobody", x.judge(0, 3), BAD);
        due(24, "nothing", x.judge(0, 0), -11);
        due(26, "nothing", x.whose(0), -11);
        due(26, "no shelf", x.whose(-1), BAD);
        due(25, "nothing", x.byHeart(0, 0, 0), VOID);
        x.body(1);
        x.keep(0, 0);
        due(24, "a heart", x.judge(0, 0), -12);
        due(26, "a heart", x.whose(0), -12);
        due(25, "a heart", x.byHeart(0, 0, 0), VOID);
        x.row(0, 2, 2);
        due(24, "ints", x.judge(0, 0), -12);
        due(24, "ints, nobody", x.judge(0, 9), BAD);
        due(26, "ints", x.whose(0), -12);
        due(25, "ints", x.byHeart(0, 0, 0), VOID);
        fillRow(x, 0, 1);
        due(24, "an empty book", x.judge(0, 0), NOT);
        due(25, "an empty book", x.byHeart(0, 0, 0), 19);
        due(25, "an empty book", x.byHeart(0, 0, 1), -9);
        due(26, "an empty book", x.whose(0), 7);
        fillRow(x, 0, 1, 0, 10, 1, 15, 0, 10);
        due(24, "all so", x.judge(0, 0), NOT);
        due(24, "for the other not", x.judge(0, 1), 0);
        due(25, "by heart", x.byHeart(0, 1, 0), 1);
        due(25, "by heart", x.byHeart(0, 1, 1), 0);
        due(26, "whose", x.whose(0), 5);
        x.mend(1, 4, 2);
        x.judge(0, 0);
        due(25, "with his own load", x.byHeart(0, 1, 1), 2);
        x.mend(1, 4, 0);
        due(25, "what", x.byHeart(0, 1, 2), VOID);
        due(25, "nobody", x.byHeart(0, 3, 0), VOID);
        due(25, "no shelf", x.byHeart(6, 0, 0), VOID);
        x.put(0, 3, 16);
        due(24, "the second", x.judge(0, 0), 1);
        due(25, "none", x.byHeart(0, 0, 0), 0);
        due(25, "none", x.byHeart(0, 0, 1), -99);
        due(26, "nobody's", x.whose(0), 0);
        fillRow(x, 0, 1, 0, 10, 2, 0);
        due(24, "no such post", x.judge(0, 0), 1);
        fillRow(x, 0, 1, -1, 0);
        due(24, "post -1", x.judge(0, 0), 0);
        fillRow(x, 0, 1, 0, 10, 1);
        due(24, "lacking", x.judge(0, 0), 1);
        due(25, "lacking", x.byHeart(0, 0, 0), 0);
        due(26, "lacking", x.whose(0), 0);
        fillRow(x, 0, 1, 0, 2, 1, 3);
        due(25, "light hearts", x.byHeart(0, 0, 0), 6);
        due(25, "light hearts", x.byHeart(0, 0, 1), 4);
    }

    private static void stumpsAndLongest() {
        FingerSaysFar x = walkersOf(0);
        due(27, "no posts", x.stumps(), 0);
        due(28, "no posts", x.longest(0, 0), NOT);
        due(28, "no posts, sum", x.longest(0, 1), 0);
        due(28, "no posts, what", x.longest(0, 2), BAD);
        x.post(5005);
        x.post(3);
        x.post(143143);
        x.post(1004);
        due(27, "bits", x.stumps(), 5);
        due(28, "of like ones the least", x.longest(0, 0), 1);
        due(28, "sum", x.longest(0, 1), 30);
        x.mend(1, 2, 0);
        due(27, "mended", x.stumps(), 7);
        due(28, "mended", x.longest(0, 0), 3);
        x.mend(3, 2, 1);
        due(27, "all", x.stumps(), 15);
        due(28, "all of 0", x.longest(0, 0), 0);
        due(28, "nobody", x.longest(1, 0), BAD);
        due(28, "nobody", x.longest(-1, 1), BAD);
    }

    private static void draws() {
        FingerSaysFar x = new FingerSaysFar();
        due(29, "no posts", x.drawn(7, 50, 0), 0);
        due(29, "no posts", x.drawn(7, 50, 1), 0);
        due(29, "n 0", x.drawn(7, 0, 0), BAD);
        due(29, "n 51", x.drawn(7, 51, 0), BAD);
        due(29, "what", x.drawn(7, 1, 2), BAD);
        x.post(2);
        due(29, "one post", x.drawn(0, 1, 0), 2 * (10 - (12345 / 256 % 19 - 9) - 5));
        x.post(5);
        x.mend(0, 6, 2);
        int z = -123456789;
        int sum = 0;
        int least = Integer.MAX_VALUE;
        for (int i = 0; i < 50; i++) {
            z = z * 1103515245 + 12345;
            int minutes = 10 + (z >>> 16) % 10 + 2 - ((z >>> 8) % 19 - 9) - 5;
            int arm = Math.max(1, minutes) * ((z >>> 20) % 2 == 0 ? 2 : 5);
            sum += arm;
            least = Math.min(least, arm);
            due(29, "sum of " + (i + 1), x.drawn(-123456789, i + 1, 0), sum);
            due(29, "least of " + (i + 1), x.drawn(-123456789, i + 1, 1), least);
        }
    }

    private static void deeds() {
        FingerSaysFar x = walkersOf(1, 8);
        due(30, "up over the edge", x.goes(0, 0), STATE);
        due(30, "left over the edge", x.goes(0, 3), STATE);
        due(30, "way 4", x.goes(0, 4), BAD);
        due(30, "way -1", x.goes(0, -1), BAD);
        due(30, "nobody", x.goes(2, 1), BAD);
        due(30, "right", x.goes(0, 1), 4);
        due(30, "down", x.goes(0, 2), 4);
        due(6, "stands", x.of(0, 7), 13);
        due(30, "left", x.goes(0, 3), 4);
        due(6, "stands", x.of(0, 7), 12);
        due(30, "left over the edge", x.goes(0, 3), STATE);
        due(30, "up", x.goes(0, 0), 4);
        due(6, "stands", x.of(0, 7), 0);
        due(6, "minutes", x.of(0, 8), 16);
        for (int i = 0; i < 11; i++) {
            due(30, "right", x.goes(1, 1), 1);
            due(30, "down", x.goes(1, 2), 1);
        }
        due(30, "right over the edge", x.goes(1, 1), STATE);
        due(30, "down over the edge", x.goes(1, 2), STATE);
        due(6, "minutes", x.of(1, 8), 22);
        due(34, "steps", x.led(0), 26);
        due(34, "minutes", x.led(1), 38);
        due(31, "nothing to put down", x.putDown(0), 0);
        due(34, "loads", x.led(2), 0);
        due(32, "load 0", x.takes(0, 0), BAD);
        due(32, "load 10", x.takes(0, 10), BAD);
        due(32, "nobody", x.takes(2, 1), BAD);
        due(32, "takes", x.takes(0, 9), 1);
        due(32, "has one", x.takes(0, 1), STATE);
        due(32, "has one, not as said", x.takes(0, 10), BAD);
        due(6, "load", x.of(0, 4), 9);
        due(30, "laden", x.goes(0, 1), 13);
        due(31, "puts down", x.putDown(0), 9);
        due(6, "load", x.of(0, 4), 0);
        due(31, "nobody", x.putDown(2), BAD);
        due(32, "the least load", x.takes(1, 1), 1);
        due(32, "has it", x.takes(1, 1), STATE);
        due(31, "the least load", x.putDown(1), 1);
        due(33, "cheer", x.cheer(1), 9);
        due(33, "at most", x.cheer(1), 9);
        due(33, "nobody", x.cheer(2), VOID);
        due(33, "nobody", x.cheer(-1), VOID);
        due(34, "loads", x.led(2), 2);
        due(34, "cheers", x.led(3), 2);
        due(34, "what", x.led(4), BAD);
        due(34, "what", x.led(-1), BAD);
        due(48, "deeds are no changes", x.count(3), 0);
    }

    private static void images() {
        FingerSaysFar x = walkersOf(1);
        x.takes(0, 3);
        x.goes(0, 1);
        x.cheer(0);
        due(35, "image", x.image(), 1);
        x.walker(5);
        x.goes(1, 2);
        x.goes(0, 2);
        x.cheer(0);
        x.cheer(1);
        x.putDown(0);
        x.mend(0, 5, 9);
        x.mend(13, 0, 4);
        x.mend(0, 6, 3);
        due(34, "steps", x.led(0), 3);
        for (int i = 0; i < 2; i++) {
            due(36, "back", x.back(), 1);
            due(36, "stands", x.of(0, 7), 1);
            due(36, "minutes", x.of(0, 8), 7);
            due(36, "heart", x.of(0, 3), 2);
            due(36, "load", x.of(0, 4), 3);
            due(36, "shoes stay", x.of(0, 5), 9);
            due(36, "height stays", x.of(13, 0), 4);
            due(36, "weather stays", x.of(0, 6), 3);
            due(36, "who came since stands", x.of(1, 7), 12);
            due(36, "his heart", x.of(1, 3), 6);
            due(36, "led minutes", x.led(1), 7);
            due(36, "led loads", x.led(2), 0);
            due(36, "led cheers", x.led(3), 1);
            due(36, "walkers", x.count(1), 2);
            x.goes(0, 1);
        }
        due(35, "a later image", x.image(), 2);
        x.goes(0, 1);
        due(36, "back to it", x.back(), 2);
        due(36, "stands", x.of(0, 7), 2);
    }

    private static void undoing() {
        FingerSaysFar x = walkersOf(1);
        x.post(5);
        x.mend(0, 3, 4);
        x.mend(0, 3, 4);
        due(48, "the same number is none", x.count(3), 1);
        x.mend(0, 4, 6);
        x.mend(0, 1, 8);
        x.mend(0, 2, 9);
        x.mend(0, 6, 5);
        x.mend(0, 0, 7);
        due(37, "undo height", x.undo(), 5);
        due(6, "height", x.of(0, 0), 0);
        due(37, "undo weather", x.undo(), 4);
        due(6, "weather", x.of(0, 6), 0);
        due(37, "undo to", x.undo(), 3);
        due(6, "to", x.of(0, 2), 5);
        due(37, "undo cell", x.undo(), 2);
        due(6, "cell", x.of(0, 1), 0);
        x.putDown(0);
        x.mend(0, 4, 0);
        due(38, "a deed and no change leave it", x.redo(), 3);
        due(6, "cell", x.of(0, 1), 8);
        due(37, "undo", x.undo(), 2);
        due(37, "undo load", x.undo(), 1);
        due(6, "load as ahead of the change", x.of(0, 4), 0);
        due(38, "redo load", x.redo(), 4);
        due(6, "load as by the change", x.of(0, 4), 6);
        x.mend(0, 5, 2);
        due(38, "another came behind", x.redo(), STATE);
        due(48, "changes", x.count(3), 3);
        due(37, "undo", x.undo(), 2);
        due(37, "undo", x.undo(), 1);
        due(37, "undo", x.undo(), 0);
        due(6, "heart", x.of(0, 3), 1);
        due(37, "none", x.undo(), STATE);
        for (int i = 1; i <= 45; i++) {
            x.mend(i, 0, 1 + i % 9);
            due(48, "kept", x.count(3), Math.min(40, i));
        }
        for (int i = 39; i >= 0; i--) {
            due(37, "undo", x.undo(), i);
        }
        due(37, "none", x.undo(), STATE);
        due(6, "forgotten", x.of(5, 0), 6);
        due(6, "undone", x.of(6, 0), 0);
        for (int i = 39; i >= 0; i--) {
            due(38, "redo", x.redo(), i);
        }
        due(38, "none", x.redo(), STATE);
        due(6, "done again", x.of(45, 0), 1);
        for (int i = 0; i < 40; i++) {
            x.mend(0, 3 + i % 2, x.of(0, 3 + i % 2) == 3 ? 2 : 3);
        }
        for (int i = 0; i < 3; i++) {
            x.mend(0, 6, 9 - i);
        }
        while (x.undo() >= 0) {
            x.led(0);
        }
        due(37, "weather", x.of(0, 6), 0);
        due(37, "the heart of the third change", x.of(0, 3), 2);
        due(37, "the load of the second change", x.of(0, 4), 3);
    }

    private static void acts() {
        FingerSaysFar x = new FingerSaysFar();
        due(39, "kind -1", x.body(-1), BAD);
        due(39, "kind 8", x.body(8), BAD);
        for (int i = 0; i < 50; i++) {
            due(39, "body", x.body(i % 8), i);
        }
        due(39, "full", x.body(0), FULL);
        due(39, "full, not as said", x.body(8), BAD);
        // by kind: points, grows, turns, reads with x 10, the body's number being its kind
        int[][] values = {
            {10, 20, 10, 19},
            {14, 28, 11, 28},
            {12, -24, 8, -27},
            {13, -28, 27, -34},
            {17, 34, 5, 38},
            {15, -32, 45, (-32 - 12) ^ 5},
            {32, 64, 12, 57},
            {20, 33, 1, 38}};
        int[][][] ran = {
            {{1}, {10, 1}, {11}, {2, 10, 1, 11}},
            {{20, 1}, {10, 20, 1}, {11}, {2, 10, 20, 1, 11}},
            {{1}, {30, 10, 1}, {11}, {2, 30, 10, 1, 11}},
            {{1}, {41, 30, 10, 1}, {40, 11}, {2, 41, 30, 10, 1, 40, 11}},
            {{20, 1}, {10, 20, 1}, {50, 11, 20, 1}, {2, 10, 20, 1, 50, 11, 20, 1}},
            {{1}, {41, 30, 10, 1}, {40, 11}, {60, 2, 41, 30, 10, 1, 40, 11}},
            {{70, 1}, {10, 70, 1}, {11}, {2, 10, 70, 1, 11}},
            {{20, 1}, {80, 10, 20, 1, 50, 11, 20, 1}, {50, 11, 20, 1},
                {81, 2, 80, 10, 20, 1, 50, 11, 20, 1, 50, 11, 20, 1}}};
        for (int kind = 0; kind < 8; kind++) {
            for (int act = 0; act < 4; act++) {
                due(40, "kind " + kind + ", act " + act, x.act(kind, act, 10), values[kind][act]);
                due(48, "bodies that ran", x.count(5), ran[kind][act].length);
                for (int i = 0; i < ran[kind][act].length; i++) {
                    due(41, "kind " + kind + ", act " + act + ", " + i, x.trace(i), ran[kind][act][i]);
                }
                due(41, "behind", x.trace(ran[kind][act].length), BAD);
                due(41, "ahead", x.trace(-1), BAD);
            }
        }
        actsElsewhere(x);
    }

    private static void actsElsewhere(FingerSaysFar x) {
        due(40, "the last", x.act(49, 0, 1), 1 + 49 + 3);
        due(40, "wraps", x.act(8, 1, Integer.MAX_VALUE), (Integer.MAX_VALUE + 8) * 2);
        int[][] bad = {{-1, 0}, {50, 0}, {0, -1}, {0, 4}, {Integer.MIN_VALUE, 0}, {0, Integer.MAX_VALUE}};
        for (int[] b : bad) {
            x.act(0, 0, 1);
            due(48, "one ran", x.count(5), 1);
            due(40, "none such", x.act(b[0], b[1], 5), 0);
            due(48, "no trace", x.count(5), 0);
            due(41, "no trace", x.trace(0), BAD);
        }
    }

    private static void shelves() {
        FingerSaysFar x = new FingerSaysFar();
        due(42, "no such heart", x.keep(0, 0), BAD);
        due(42, "nothing", x.keep(0, -1), 1);
        x.body(3);
        due(42, "heart", x.keep(0, 0), 1);
        due(42, "heart 1", x.keep(0, 1), BAD);
        due(42, "heart -2", x.keep(0, -2), BAD);
        due(42, "shelf 6", x.keep(6, 0), BAD);
        due(42, "shelf -1", x.keep(-1, -1), BAD);
        due(42, "it is still there", x.taken(0, 0), 3);
        due(44, "a heart", x.put(0, 0, 1), -12);
        due(45, "a heart", x.element(0, 0), Long.MIN_VALUE);
        x.row(0, 2, 5);
        x.keep(0, 0);
        due(42, "a heart in a row's place", x.put(0, 0, 1), -12);
        due(42, "a heart in a row's place", x.taken(0, 3), 3);
        x.row(0, 2, 5);
        due(43, "a row in a heart's place", x.taken(0, 3), -12);
        due(42, "nothing", x.keep(0, -1), 1);
        due(44, "nothing", x.put(0, 0, 1), -11);
        due(45, "nothing", x.element(0, 0), Long.MIN_VALUE);
        due(43, "shelf 6", x.row(6, 0, 1), BAD);
        due(43, "sort 5", x.row(0, 5, 1), BAD);
        due(43, "sort -1", x.row(0, -1, 1), BAD);
        due(43, "61", x.row(0, 0, 61), BAD);
        due(43, "-1", x.row(0, 0, -1), -14);
        due(43, "sort and size", x.row(0, 5, -1), BAD);
        due(43, "still nothing", x.put(0, 0, 1), -11);
        due(43, "60", x.row(0, 0, 60), 1);
        due(44, "the last", x.put(0, 59, 5), 1);
        due(44, "60", x.put(0, 60, 5), -13);
        due(44, "-1", x.put(0, -1, 5), -13);
        due(44, "shelf", x.put(6, 0, 5), BAD);
        due(45, "shelf", x.element(-1, 0), Long.MIN_VALUE);
        due(45, "the last", x.element(0, 59), 5);
        due(45, "60", x.element(0, 60), Long.MIN_VALUE);
        due(43, "none", x.row(0, 3, 0), 1);
        due(44, "none", x.put(0, 0, 5), -13);
        due(43, "a new row", x.row(0, 3, 60), 1);
        due(45, "0 at first", x.element(0, 59), 0);
        long v = 0x123456789ABCDEF0L;
        long[] kept = {(byte) v, (short) v, (int) v, v, 1};
        long[] ofMinus = {-1, -1, -1, -1, 1};
        for (int sort = 0; sort <= 4; sort++) {
            x.row(1, sort, 2);
            due(45, "0 at first", x.element(1, 1), 0);
            due(44, "put", x.put(1, 1, v), 1);
            due(45, "lowest bits", x.element(1, 1), kept[sort]);
            x.put(1, 0, -1);
            due(45, "-1", x.element(1, 0), ofMinus[sort]);
            x.put(1, 0, 0);
            due(45, "0", x.element(1, 0), 0);
        }
        x.put(1, 0, 1L << 40);
        due(45, "whether it is not 0", x.element(1, 0), 1);
    }

    private static void shifting() {
        FingerSaysFar x = new FingerSaysFar();
        fillRow(x, 0, 2, 1, 2, 3, 4, 5);
        due(46, "onto itself", x.shift(0, 0, 0, 1, 4), 4);
        long[] right = {1, 1, 2, 3, 4};
        for (int i = 0; i < 5; i++) {
            due(46, "as before", x.element(0, i), right[i]);
        }
        due(46, "back", x.shift(0, 1, 0, 0, 4), 4);
        due(46, "back", x.element(0, 2), 3);
        due(46, "nothing there", x.shift(0, 0, 1, 0, 1), -11);
        due(46, "nothing there", x.shift(1, 0, 0, 0, 1), -11);
        x.body(0);
        x.keep(2, 0);
        due(46, "nothing ahead of a heart", x.shift(2, 0, 1, 0, 1), -11);
        due(46, "a heart", x.shift(2, 0, 0, 0, 1), -12);
        due(46, "a heart", x.shift(0, 0, 2, 0, 1), -12);
        due(46, "a heart and a heart", x.shift(2, 0, 2, 0, 0), -12);
        x.row(3, 3, 9);
        due(46, "unlike sorts", x.shift(0, 0, 3, 0, 1), -12);
        due(46, "unlike sorts ahead of places", x.shift(0, 9, 3, -1, 1), -12);
        x.row(4, 2, 3);
        due(46, "all", x.shift(0, 2, 4, 0, 3), 3);
        due(46, "the last", x.element(4, 2), 4);
        due(46, "none at the ends", x.shift(0, 5, 4, 3, 0), 0);
        int[][] bad = {{0, 0, 4}, {3, 0, 3}, {0, 1, 3}, {-1, 0, 1}, {0, -1, 1}, {6, 0, 0}, {0, 4, 0}, {0, 0, -1},
            {Integer.MAX_VALUE, 0, Integer.MAX_VALUE}, {1, 1, Integer.MAX_VALUE}, {0, 0, Integer.MIN_VALUE}};
        for (int[] b : bad) {
            due(46, "places " + b[0] + " " + b[1] + " " + b[2], x.shift(0, b[0], 4, b[1], b[2]), -13);
        }
        due(46, "shelf", x.shift(6, 0, 0, 0, 0), BAD);
        due(46, "other shelf", x.shift(0, 0, -1, 0, 0), BAD);
        due(46, "other shelf ahead of nothing", x.shift(1, 0, 6, 0, 0), BAD);
    }

    private static void castsAndCounts() {
        FingerSaysFar x = new FingerSaysFar();
        due(47, "nothing", x.taken(0, 0), -11);
        due(47, "shelf", x.taken(6, 0), BAD);
        due(47, "kind 8", x.taken(0, 8), BAD);
        due(47, "kind -1", x.taken(0, -1), BAD);
        x.row(0, 0, 1);
        due(47, "a row", x.taken(0, 0), -12);
        // by kind the set of kinds that it is of
        int[] above = {1, 3, 5, 13, 19, 45, 65, 147};
        for (int kind = 0; kind < 8; kind++) {
            x.body(kind);
            x.keep(1, kind);
            for (int k = 0; k < 8; k++) {
                due(47, "kind " + kind + " as " + k, x.taken(1, k), (above[kind] >> k & 1) != 0 ? kind : -12);
            }
        }
        x.post(0);
        x.walker(0);
        x.walker(1);
        x.feed('1');
        x.feed('1');
        x.feed('1');
        x.mend(0, 3, 3);
        x.mend(0, 3, 4);
        x.undo();
        x.act(0, 1, 2);
        int[] counts = {1, 2, 3, 1, 8, 2};
        for (int what = 0; what < 6; what++) {
            due(48, "count " + what, x.count(what), counts[what]);
        }
        due(48, "count 6", x.count(6), BAD);
        due(48, "count -1", x.count(-1), BAD);
    }
}
