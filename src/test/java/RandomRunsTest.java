import java.lang.reflect.Method;
import java.util.ArrayList;
import java.util.Comparator;
import java.util.List;
import java.util.Random;

/** Holds the class against PlainFinger over runs of drawn calls; the seeds are fixed, so that each run is the same. */
public final class RandomRunsTest {
    private static final int CALLS = 500;
    private static final String[] LAWS = {
        "9+(u>0)*u*2-k+l*2-s/3+w", "u>3?40;k<0?20-k;5+h", "u=0?3;u<0?1;99", "k*k%7+l+1", "!(l-3)*20+h*h+1-w",
        "-k+-u*2", "w|l?s*s;0", "u/0+h%0+7", "9999*9999*9999*k", "u*u+((k&l)|!s)*9", "1<k&2>l?8;(k=3)+11",
        "50+k*5", "h-k", "u+5", "3", "k>2|w>4?2;l*3+1"};
    private static int wrong = 0;

    public static void main(String[] args) throws Exception {
        int runs = args.length > 0 ? Integer.parseInt(args[0]) : 60;
        for (int seed = 0; seed < runs; seed++) {
            run(seed);
        }
        for (int seed = 0; seed < 20 * runs; seed++) {
            runTexts(seed);
        }
        System.out.println(wrong == 0 ? "all answers are alike" : wrong + " answers are not alike");
        System.exit(wrong == 0 ? 0 : 1);
    }

    private static List<Method> face() {
        List<Method> all = new ArrayList<>();
        for (Method m : FingerSaysFar.class.getDeclaredMethods()) {
            if (java.lang.reflect.Modifier.isPublic(m.getModifiers())) {
                all.add(m);
            }
        }
        all.sort(Comparator.comparing(Method::getName));
        return all;
    }

    private static void run(int seed) throws Exception {
        Random r = new Random(seed);
        FingerSaysFar x = new FingerSaysFar();
        PlainFinger y = new PlainFinger();
        List<Method> face = face();
        int calls = 0;
        // A moor with something on it, so that the calls have what to tell of.
        int heights = r.nextInt(4) * 20;
        for (int i = 0; i < heights; i++, calls++) {
            both(seed, calls, x, y, "mend", r.nextInt(144), 0, r.nextInt(10));
        }
        for (int i = r.nextInt(9); i > 0; i--, calls++) {
            both(seed, calls, x, y, "post", 1000 * r.nextInt(144) + r.nextInt(144));
        }
        for (int i = r.nextInt(7); i > 0; i--, calls++) {
            both(seed, calls, x, y, "walker", r.nextInt(19) - 9);
        }
        if (r.nextInt(3) > 0) {
            calls += feedAll(seed, calls, x, y, LAWS[r.nextInt(LAWS.length)]);
        }
        while (calls < CALLS && wrong < 20) {
            Method m = face.get(r.nextInt(face.size()));
            boolean dear = m.getName().equals("pairs") || m.getName().equals("byHeart") || m.getName().equals("next");
            if (dear && r.nextInt(6) > 0) {
                continue;
            }
            if (m.getName().equals("put") && r.nextInt(3) == 0) {
                calls += writeBook(seed, calls, x, y, r);
            } else {
                both(seed, calls++, x, y, m.getName(), drawnArguments(m, r, y));
            }
        }
    }

    /** A book of which the first twos are so for one of the walkers. */
    private static int writeBook(int seed, int calls, FingerSaysFar x, PlainFinger y, Random r) throws Exception {
        int shelf = r.nextInt(6);
        int n = r.nextInt(7);
        both(seed, calls, x, y, "row", shelf, 1, n);
        for (int i = 0; i < n; i++) {
            int post = r.nextInt(Math.max(1, y.posts.size()));
            int aw = 10 * post + r.nextInt(Math.max(1, y.walkers.size()));
            long v = i % 2 == 0 ? post : y.arm(aw) + (r.nextInt(9) == 0 ? 1 : 0);
            if (i % 2 == 1) {
                both(seed, calls, x, y, "put", shelf, i - 1, (long) post);
            }
            both(seed, calls, x, y, "put", shelf, i, v);
        }
        int walker = r.nextInt(6);
        both(seed, calls, x, y, "judge", shelf, walker);
        both(seed, calls, x, y, "whose", shelf);
        both(seed, calls, x, y, "byHeart", shelf, walker, r.nextInt(2));
        return 3 + 2 * n;
    }

    private static int feedAll(int seed, int calls, FingerSaysFar x, PlainFinger y, String t) throws Exception {
        for (int i = 0; i < t.length(); i++) {
            both(seed, calls + i, x, y, "feed", (int) t.charAt(i));
        }
        both(seed, calls + t.length(), x, y, "law");
        return t.length() + 1;
    }

    /** Texts near the grammar: drawn from it, then perhaps spoilt in one place. */
    private static void runTexts(int seed) throws Exception {
        Random r = new Random(seed);
        FingerSaysFar x = new FingerSaysFar();
        PlainFinger y = new PlainFinger();
        both(seed, 0, x, y, "walker", r.nextInt(19) - 9);
        both(seed, 0, x, y, "mend", 1, 0, r.nextInt(10));
        both(seed, 0, x, y, "mend", 0, 0, r.nextInt(10));
        for (int i = 0, used = 4; used < 400; i++) {
            StringBuilder b = new StringBuilder();
            drawText(r, b);
            if (r.nextInt(2) == 0 && b.length() > 0) {
                b.setCharAt(r.nextInt(b.length()), "0123456789uklswh|&<=>+-*/%!()?; xU".charAt(r.nextInt(34)));
            }
            if (r.nextInt(8) == 0) {
                b.setLength(r.nextInt(b.length() + 1));
            }
            b.setLength(Math.min(120, b.length()));
            used += feedAll(seed, used, x, y, b.toString()) + 2;
            both(seed, used, x, y, "step", 1, 0);
            both(seed, used, x, y, "step", 1000, 0);
        }
    }

    private static void drawText(Random r, StringBuilder b) {
        for (int lines = 1 + r.nextInt(3); lines > 0; lines--) {
            if (r.nextBoolean()) {
                drawLevel(r, b, 0, 0);
                b.append('?');
            }
            drawLevel(r, b, 0, 0);
            b.append(lines > 1 ? ";" : "");
        }
    }

    private static void drawLevel(Random r, StringBuilder b, int level, int open) {
        String[] signs = {"|", "&", "<=>", "+-", "*/%"};
        if (level == 5) {
            drawOperand(r, b, open);
            return;
        }
        drawLevel(r, b, level + 1, open);
        while (r.nextInt(7) == 0 && b.length() < 110) {
            b.append(signs[level].charAt(r.nextInt(signs[level].length())));
            drawLevel(r, b, level + 1, open);
            if (level == 2) {
                return;
            }
        }
    }

    private static void drawOperand(Random r, StringBuilder b, int open) {
        int kind = r.nextInt(10);
        if (open > 6 || kind < 3) {
            b.append("uklswh".charAt(r.nextInt(6)));
        } else if (kind < 5) {
            b.append(r.nextInt(r.nextInt(40) == 0 ? 20000 : 1 + r.nextInt(20)));
        } else if (kind < 7) {
            b.append(r.nextBoolean() ? '!' : '-');
            drawOperand(r, b, open + 1);
        } else {
            b.append('(');
            drawLevel(r, b, 0, open + 1);
            b.append(')');
        }
    }

    private static Object[] drawnArguments(Method m, Random r, PlainFinger y) {
        Object[] drawn = new Object[m.getParameterCount()];
        String name = m.getName();
        for (int i = 0; i < drawn.length; i++) {
            if (m.getParameterTypes()[i] == long.class) {
                drawn[i] = r.nextInt(3) == 0 ? r.nextLong() : (long) (r.nextInt(30) - 10);
            } else {
                drawn[i] = r.nextInt(25) == 0 ? odd(r) : fitting(name, i, r, y);
            }
        }
        return drawn;
    }

    private static int odd(Random r) {
        int[] all = {-1, -2, -3, -4, 0, 1, 2, 5, 6, 7, 8, 9, 10, 50, 60, 61, 143, 144, 255, 256, 999, 1000, 9999, 10000,
            143143, 143144, 144000, Integer.MIN_VALUE, Integer.MAX_VALUE, Integer.MAX_VALUE - 2, -10, -1000};
        return all[r.nextInt(all.length)];
    }

    private static int fitting(String name, int i, Random r, PlainFinger y) {
        int ft = 1000 * r.nextInt(144) + r.nextInt(144);
        int from = r.nextInt(144);
        int side = from + new int[] {-12, -1, 1, 12}[r.nextInt(4)];
        int near = 1000 * from + Math.max(0, Math.min(143, side));
        int w = r.nextInt(Math.max(1, y.walkers.size()));
        int p = r.nextInt(Math.max(1, y.posts.size()));
        int body = r.nextInt(Math.max(1, y.hearts.size()));
        int minutes = r.nextInt(1 + (r.nextBoolean() ? 40 : 600));
        switch (name + i) {
            case "post0", "way0", "together0", "withWhom0", "meet0", "carry0", "light0", "backFrom0":
                return ft;
            case "step0":
                return near;
            case "walker0":
                return r.nextInt(19) - 9;
            case "walkers1":
                return r.nextInt(20);
            case "walkers2":
                return 1 + r.nextInt(6);
            case "mend0", "of0":
                return r.nextInt(3) == 0 ? r.nextInt(144) : r.nextInt(4);
            case "mend1", "of1":
                return r.nextInt(9);
            case "mend2":
                return r.nextInt(15) - 4;
            case "feed0":
                return "uklswh123()+-*/%<=>&|!?;".charAt(r.nextInt(24));
            case "step1", "way1", "reach1", "withWhom1", "carry1", "light1", "backFrom1", "round1", "next0", "judge1",
                "byHeart1", "longest0", "goes0", "putDown0", "takes0", "cheer0":
                return w;
            case "arm0", "hearts0", "pairs0", "weathers0":
                return 10 * p + w;
            case "way2":
                return r.nextInt(16) - 3;
            case "reach0", "backFrom2":
                return r.nextInt(144);
            case "reach2", "carry2", "light2", "weathers1":
                return minutes;
            case "hearts1", "pairs1":
                return y.posts.isEmpty() || y.walkers.isEmpty() || r.nextInt(3) == 0 ? minutes : y.armOf(p, y.walkers.get(w));
            case "together1", "meet1":
                return 10 * w + r.nextInt(Math.max(1, y.walkers.size()));
            case "round0":
                return 1000 * r.nextInt(144) + r.nextInt(1 << y.posts.size());
            case "round2":
                return r.nextInt(6) - 1;
            case "drawn0":
                return r.nextInt();
            case "drawn1":
                return 1 + r.nextInt(12);
            case "goes1", "led0", "act1":
                return r.nextInt(4);
            case "takes1":
                return 1 + r.nextInt(9);
            case "body0", "taken1":
                return r.nextInt(8);
            case "act0":
                return body;
            case "act2":
                return r.nextBoolean() ? r.nextInt() : r.nextInt(10);
            case "trace0":
                return r.nextInt(14);
            case "keep1":
                return body - r.nextInt(2);
            case "row1":
                return r.nextInt(5);
            case "row2":
                return r.nextInt(r.nextBoolean() ? 8 : 61);
            case "put1", "element1", "shift1", "shift3", "shift4":
                return r.nextInt(8);
            case "count0":
                return r.nextInt(6);
            case "reach3", "meet2", "hearts2", "next1", "byHeart2", "longest1", "drawn2":
                return r.nextInt(2);
            default:
                return r.nextInt(6);
        }
    }

    private static void both(int seed, int call, FingerSaysFar x, PlainFinger y, String name, Object... args)
            throws Exception {
        Method mine = null;
        for (Method m : FingerSaysFar.class.getDeclaredMethods()) {
            mine = m.getName().equals(name) ? m : mine;
        }
        Method plain = PlainFinger.class.getDeclaredMethod(name, mine.getParameterTypes());
        Object got = mine.invoke(x, args);
        Object want = plain.invoke(y, args);
        if (!got.equals(want)) {
            wrong++;
            System.out.println("seed " + seed + ", call " + call + ": " + name + java.util.Arrays.toString(args)
                    + " answered " + got + ", due is " + want);
        }
    }
}
