import java.util.ArrayDeque;
import java.util.ArrayList;
import java.util.Arrays;
import java.util.Deque;
import java.util.HashMap;
import java.util.List;
import java.util.Map;

/**
 * The document a second time, in the plainest words and by other means than the class: ways by sweeping over all
 * cells until nothing changes, laws by a tree of terms, faults by a list of open brackets, acts by Java's own
 * inheritance, rows by Java's own arrays and what they throw. RandomRunsTest holds the class against it.
 */
final class PlainFinger {
    static final int BAD = -1, NOT = -2, FULL = -3, STATE = -5, VOID = -2000000000;

    static final class Walker {
        int heart, load, shoes = 5, cell, minutes;
    }

    record Change(int number, int what, int before, int after) {
    }

    record Image(int[][] walkers, int[] led) {
    }

    final int[] heights = new int[144];
    final List<int[]> posts = new ArrayList<>();
    final List<Walker> walkers = new ArrayList<>();
    final List<Integer> tape = new ArrayList<>();
    final Deque<Change> undone = new ArrayDeque<>();
    final Deque<Change> done = new ArrayDeque<>();
    final List<Heart> hearts = new ArrayList<>();
    final List<Integer> trace = new ArrayList<>();
    final Object[] shelves = new Object[6];
    int[] led = new int[4];
    int weather;
    String text;
    Image image;

    // ---- the law

    /** The fault of a text by a machine that only knows what is open; -1 if there is none. */
    static int faultOf(String t) {
        Deque<Integer> opened = new ArrayDeque<>();
        Deque<Boolean> compared = new ArrayDeque<>();
        compared.push(false);
        int prefixes = 0, open = 0, digits = 0;
        boolean operandDue = true, condition = false;
        for (int i = 0; i < t.length(); i++) {
            char c = t.charAt(i);
            if (operandDue) {
                if (c == '(' || c == '!' || c == '-') {
                    if (open == 6) {
                        return i;
                    }
                    open++;
                    prefixes++;
                    if (c == '(') {
                        opened.push(prefixes);
                        compared.push(false);
                        prefixes = 0;
                    }
                } else if ("0123456789uklswh".indexOf(c) >= 0) {
                    digits = c <= '9' ? 1 : 0;
                    open -= prefixes;
                    prefixes = 0;
                    operandDue = false;
                } else {
                    return i;
                }
                continue;
            }
            if (c >= '0' && c <= '9' && digits > 0 && digits < 4) {
                digits++;
                continue;
            }
            digits = 0;
            if (c == ')' && !opened.isEmpty()) {
                open -= opened.pop();
                compared.pop();
                continue;
            }
            if ("+-*/%".indexOf(c) >= 0) {
                operandDue = true;
            } else if ("|&".indexOf(c) >= 0) {
                compared.pop();
                compared.push(false);
                operandDue = true;
            } else if ("<=>".indexOf(c) >= 0 && !compared.peek()) {
                compared.pop();
                compared.push(true);
                operandDue = true;
            } else if (opened.isEmpty() && (c == ';' || c == '?' && !condition)) {
                condition = c == '?';
                compared.pop();
                compared.push(false);
                operandDue = true;
            } else {
                return i;
            }
        }
        return operandDue || !opened.isEmpty() ? t.length() : -1;
    }

    /** The value of a sound term: split at its last loosest sign outside brackets. */
    static int value(String e, Map<Character, Integer> names) {
        for (String signs : new String[] {"|", "&", "<=>", "+-", "*/%"}) {
            int at = lastSign(e, signs);
            if (at >= 0) {
                return join(value(e.substring(0, at), names), e.charAt(at), value(e.substring(at + 1), names));
            }
        }
        char c = e.charAt(0);
        if (c == '!') {
            return value(e.substring(1), names) == 0 ? 1 : 0;
        }
        if (c == '-') {
            return -value(e.substring(1), names);
        }
        if (c == '(') {
            return value(e.substring(1, e.length() - 1), names);
        }
        return Character.isDigit(c) ? Integer.parseInt(e) : names.get(c);
    }

    private static int lastSign(String e, String signs) {
        int open = 0;
        for (int i = e.length() - 1; i > 0; i--) {
            char c = e.charAt(i);
            open += c == ')' ? 1 : c == '(' ? -1 : 0;
            boolean behindOperand = "0123456789uklswh)".indexOf(e.charAt(i - 1)) >= 0;
            if (open == 0 && signs.indexOf(c) >= 0 && behindOperand) {
                return i;
            }
        }
        return -1;
    }

    private static int join(int a, char sign, int b) {
        return switch (sign) {
            case '|' -> a != 0 | b != 0 ? 1 : 0;
            case '&' -> a != 0 & b != 0 ? 1 : 0;
            case '<' -> a < b ? 1 : 0;
            case '=' -> a == b ? 1 : 0;
            case '>' -> a > b ? 1 : 0;
            case '+' -> a + b;
            case '-' -> a - b;
            case '*' -> a * b;
            case '/' -> b == 0 ? 0 : a / b;
            default -> b == 0 ? 0 : a % b;
        };
    }

    int stepMinutes(int from, int to, int k, int l, int s, int w) {
        int h = heights[to];
        int u = h - heights[from];
        int told = 10 + (u > 0 ? 3 * u : 0) + l + w - k - s;
        if (text != null) {
            Map<Character, Integer> names = new HashMap<>(Map.of('u', u, 'k', k, 'l', l, 's', s, 'w', w, 'h', h));
            told = 0;
            for (String line : text.split(";")) {
                int ask = line.indexOf('?');
                if (ask < 0 || value(line.substring(0, ask), names) != 0) {
                    told = value(line.substring(ask + 1), names);
                    break;
                }
            }
        }
        return told < 1 ? 1 : told > 99 ? 99 : told;
    }

    // ---- ways

    /** Minutes of each single step, [from][to], 0 where there is none; the slower of the walkers told. */
    int[][] steps(Walker... group) {
        return steps(weather, group);
    }

    int[][] steps(int w, Walker... group) {
        int[][] minutes = new int[144][144];
        Map<String, Integer> known = new HashMap<>();
        for (int a = 0; a < 144; a++) {
            for (int b = 0; b < 144; b++) {
                if (Math.abs(a / 12 - b / 12) + Math.abs(a % 12 - b % 12) == 1) {
                    int from = a, to = b;
                    minutes[a][b] = known.computeIfAbsent(heights[a] + " " + heights[b], x -> {
                        int most = 0;
                        for (Walker one : group) {
                            most = Math.max(most, stepMinutes(from, to, one.heart, one.load, one.shoes, w));
                        }
                        return most;
                    });
                }
            }
        }
        return minutes;
    }

    /** Minutes from a cell to each. */
    static int[] from(int[][] steps, int start) {
        int[] far = new int[144];
        Arrays.fill(far, 1000000);
        far[start] = 0;
        for (boolean changed = true; changed; ) {
            changed = false;
            for (int a = 0; a < 144; a++) {
                for (int b : new int[] {a - 12, a - 1, a + 1, a + 12}) {
                    if (b >= 0 && b < 144 && steps[a][b] > 0 && far[a] + steps[a][b] < far[b]) {
                        far[b] = far[a] + steps[a][b];
                        changed = true;
                    }
                }
            }
        }
        return far;
    }

    static int minutes(int[][] steps, int a, int b) {
        return from(steps, a)[b];
    }

    static List<Integer> wayOf(int[][] steps, int a, int b) {
        int total = minutes(steps, a, b);
        List<Integer> way = new ArrayList<>(List.of(a));
        int spent = 0;
        for (int at = a; at != b; ) {
            for (int c : new int[] {at - 12, at - 1, at + 1, at + 12}) {
                if (c >= 0 && c < 144 && steps[at][c] > 0 && spent + steps[at][c] + minutes(steps, c, b) == total) {
                    spent += steps[at][c];
                    at = c;
                    break;
                }
            }
            way.add(at);
        }
        return way;
    }

    private static boolean in(int v, int a, int b) {
        return a <= v && v <= b;
    }

    private static boolean isFt(int ft) {
        return ft >= 0 && ft / 1000 <= 143 && ft % 1000 <= 143;
    }

    private boolean isW(int w) {
        return in(w, 0, walkers.size() - 1);
    }

    private boolean isAw(int aw) {
        return aw >= 0 && aw / 10 < posts.size() && isW(aw % 10);
    }

    private boolean isAb(int ab) {
        return ab >= 0 && isW(ab / 10) && isW(ab % 10) && ab / 10 != ab % 10;
    }

    private static Walker like(Walker one, int heart, int load) {
        Walker other = new Walker();
        other.heart = heart;
        other.load = load;
        other.shoes = one.shoes;
        return other;
    }

    int armOf(int post, Walker one) {
        return minutes(steps(one), posts.get(post)[0], posts.get(post)[1]);
    }

    public int post(int ft) {
        if (!isFt(ft)) {
            return BAD;
        }
        if (posts.size() == 8) {
            return FULL;
        }
        posts.add(new int[] {ft / 1000, ft % 1000});
        return posts.size() - 1;
    }

    public int walker(int heart) {
        if (!in(heart, -9, 9)) {
            return BAD;
        }
        if (walkers.size() == 6) {
            return FULL;
        }
        Walker one = new Walker();
        one.heart = heart;
        walkers.add(one);
        return walkers.size() - 1;
    }

    public int walkers(int shelf, int i, int n) {
        if (!in(shelf, 0, 5) || !in(n, 1, 6)) {
            return BAD;
        }
        if (shelves[shelf] != null && !(shelves[shelf] instanceof byte[])) {
            return -12;
        }
        byte[] row = (byte[]) shelves[shelf];
        int came = 0;
        try {
            for (int j = i; came < n; j += 3) {
                int heart = row[j], load = row[j + 1], shoes = row[j + 2];
                if (!in(heart, -9, 9) || !in(load, 0, 9) || !in(shoes, 1, 9) || walkers.size() == 6) {
                    break;
                }
                Walker one = new Walker();
                one.heart = heart;
                one.load = load;
                one.shoes = shoes;
                walkers.add(one);
                came++;
            }
        } catch (NullPointerException | ArrayIndexOutOfBoundsException end) {
            return came;
        }
        return came;
    }

    public int mend(int number, int what, int v) {
        int was = what > 6 ? VOID : of(number, what);
        int[][] bounds = {{0, 9}, {0, 143}, {0, 143}, {-9, 9}, {0, 9}, {1, 9}, {0, 9}};
        if (was == VOID || !in(v, bounds[what][0], bounds[what][1])) {
            return VOID;
        }
        if (was != v) {
            done.addLast(new Change(number, what, was, v));
            if (done.size() > 40) {
                done.removeFirst();
            }
            undone.clear();
            set(number, what, v);
        }
        return was;
    }

    private void set(int number, int what, int v) {
        switch (what) {
            case 0 -> heights[number] = v;
            case 1 -> posts.get(number)[0] = v;
            case 2 -> posts.get(number)[1] = v;
            case 3 -> walkers.get(number).heart = v;
            case 4 -> walkers.get(number).load = v;
            case 5 -> walkers.get(number).shoes = v;
            default -> weather = v;
        }
    }

    public int of(int number, int what) {
        if (what == 0) {
            return in(number, 0, 143) ? heights[number] : VOID;
        }
        if (what == 1 || what == 2) {
            return in(number, 0, posts.size() - 1) ? posts.get(number)[what - 1] : VOID;
        }
        if (what == 6) {
            return number == 0 ? weather : VOID;
        }
        if (!in(what, 3, 8) || !isW(number)) {
            return VOID;
        }
        Walker one = walkers.get(number);
        return new int[] {one.heart, one.load, one.shoes, 0, one.cell, one.minutes}[what - 3];
    }

    public int feed(int letter) {
        if (!in(letter, 0, 255)) {
            return BAD;
        }
        if (tape.size() == 120) {
            return FULL;
        }
        tape.add(letter);
        return tape.size();
    }

    public int law() {
        StringBuilder b = new StringBuilder();
        for (int letter : tape) {
            b.append((char) letter);
        }
        tape.clear();
        int fault = faultOf(b.toString());
        if (fault >= 0) {
            return -100 - fault;
        }
        text = b.toString();
        return 1;
    }

    public int step(int ft, int walker) {
        if (!isFt(ft) || !isW(walker)) {
            return BAD;
        }
        int minutes = steps(walkers.get(walker))[ft / 1000][ft % 1000];
        return minutes == 0 ? BAD : minutes;
    }

    public int arm(int aw) {
        return isAw(aw) ? armOf(aw / 10, walkers.get(aw % 10)) : BAD;
    }

    public int way(int ft, int walker, int k) {
        if (!isFt(ft) || !isW(walker) || k < -3) {
            return BAD;
        }
        int[][] steps = steps(walkers.get(walker));
        List<Integer> way = wayOf(steps, ft / 1000, ft % 1000);
        int minutes = 0, up = 0;
        for (int i = 1; i < way.size(); i++) {
            minutes += steps[way.get(i - 1)][way.get(i)];
            up += Math.max(0, heights[way.get(i)] - heights[way.get(i - 1)]);
        }
        return k == -1 ? minutes : k == -2 ? way.size() - 1 : k == -3 ? up : k < way.size() ? way.get(k) : NOT;
    }

    public int reach(int cell, int walker, int t, int what) {
        if (!in(cell, 0, 143) || !isW(walker) || !in(t, 0, 999) || !in(what, 0, 1)) {
            return BAD;
        }
        int[] far = from(steps(walkers.get(walker)), cell);
        int n = 0, best = -1;
        for (int c = 0; c < 144; c++) {
            if (far[c] <= t) {
                n++;
                best = best < 0 || far[c] > far[best] ? c : best;
            }
        }
        return what == 0 ? n : best;
    }

    public int together(int ft, int ab) {
        if (!isFt(ft) || !isAb(ab)) {
            return BAD;
        }
        return minutes(steps(walkers.get(ab / 10), walkers.get(ab % 10)), ft / 1000, ft % 1000);
    }

    public int withWhom(int ft, int walker) {
        if (!isFt(ft) || !isW(walker)) {
            return BAD;
        }
        int best = NOT, least = Integer.MAX_VALUE;
        for (int o = 0; o < walkers.size(); o++) {
            if (o != walker && together(ft, 10 * walker + o) < least) {
                least = together(ft, 10 * walker + o);
                best = o;
            }
        }
        return best;
    }

    public int meet(int ft, int ab, int what) {
        if (!isFt(ft) || !isAb(ab) || !in(what, 0, 1)) {
            return BAD;
        }
        int[] a = from(steps(walkers.get(ab / 10)), ft / 1000);
        int[] b = from(steps(walkers.get(ab % 10)), ft % 1000);
        int best = 0;
        for (int c = 0; c < 144; c++) {
            best = Math.max(a[c], b[c]) < Math.max(a[best], b[best]) ? c : best;
        }
        return what == 0 ? best : Math.max(a[best], b[best]);
    }

    public int carry(int ft, int walker, int t) {
        if (!isFt(ft) || !isW(walker) || !in(t, 0, 9999)) {
            return BAD;
        }
        int best = NOT;
        for (int load = 0; load <= 9; load++) {
            Walker one = like(walkers.get(walker), walkers.get(walker).heart, load);
            best = minutes(steps(one), ft / 1000, ft % 1000) <= t ? load : best;
        }
        return best;
    }

    public int light(int ft, int walker, int t) {
        if (!isFt(ft) || !isW(walker) || !in(t, 0, 9999)) {
            return VOID;
        }
        int best = -99;
        for (int heart = 9; heart >= -9; heart--) {
            Walker one = like(walkers.get(walker), heart, walkers.get(walker).load);
            best = minutes(steps(one), ft / 1000, ft % 1000) <= t ? heart : best;
        }
        return best;
    }

    public int backFrom(int ft, int walker, int other) {
        if (!isFt(ft) || !isW(walker) || !in(other, 0, 143)) {
            return BAD;
        }
        int[][] steps = steps(walkers.get(walker));
        List<Integer> way = wayOf(steps, ft / 1000, ft % 1000);
        int best = NOT;
        for (int k = 0; k < way.size(); k++) {
            int[] far = from(steps, way.get(k));
            best = far[other] <= far[ft % 1000] ? k : best;
        }
        return best;
    }

    public int round(int cs, int walker, int k) {
        if (cs < 0 || cs / 1000 > 143 || !isW(walker) || k < -1 || cs % 1000 >> posts.size() != 0) {
            return BAD;
        }
        List<Integer> set = new ArrayList<>();
        for (int p = 0; p < posts.size(); p++) {
            if ((cs % 1000 & 1 << p) != 0) {
                set.add(p);
            }
        }
        if (set.size() > 5) {
            return STATE;
        }
        if (k >= set.size()) {
            return NOT;
        }
        List<List<Integer>> orders = new ArrayList<>();
        arrange(set, new ArrayList<>(), orders);
        int[][] steps = steps(walkers.get(walker));
        int least = Integer.MAX_VALUE;
        List<Integer> best = null;
        Map<Integer, int[]> known = new HashMap<>();
        for (List<Integer> order : orders) {
            int sum = 0, at = cs / 1000;
            for (int p : order) {
                sum += known.computeIfAbsent(at, x -> from(steps, x))[posts.get(p)[0]];
                at = posts.get(p)[0];
            }
            sum += known.computeIfAbsent(at, x -> from(steps, x))[cs / 1000];
            if (sum < least) {
                least = sum;
                best = order;
            }
        }
        return k == -1 ? least : best.get(k);
    }

    private static void arrange(List<Integer> set, List<Integer> so, List<List<Integer>> into) {
        if (so.size() == set.size()) {
            into.add(new ArrayList<>(so));
        }
        for (Integer p : set) {
            if (!so.contains(p)) {
                so.add(p);
                arrange(set, so, into);
                so.remove(so.size() - 1);
            }
        }
    }

    // ---- hearts from arms

    public int hearts(int aw, int a, int what) {
        if (!isAw(aw) || !in(a, 0, 9999) || !in(what, 0, 1)) {
            return VOID;
        }
        int n = 0, least = -99;
        for (int heart = 9; heart >= -9; heart--) {
            if (armOf(aw / 10, like(walkers.get(aw % 10), heart, walkers.get(aw % 10).load)) == a) {
                n++;
                least = heart;
            }
        }
        return what == 0 ? n : least;
    }

    public int pairs(int aw, int a) {
        if (!isAw(aw) || !in(a, 0, 9999)) {
            return BAD;
        }
        int n = 0;
        for (int i = 0; i < 190; i++) {
            n += armOf(aw / 10, like(walkers.get(aw % 10), i / 10 - 9, i % 10)) == a ? 1 : 0;
        }
        return n;
    }

    public int next(int walker, int what) {
        if (!isW(walker) || !in(what, 0, 1)) {
            return BAD;
        }
        int best = NOT, least = 20;
        for (int p = 0; p < posts.size(); p++) {
            Map<Integer, Integer> crowds = new HashMap<>();
            int most = 0;
            for (int heart = -9; heart <= 9; heart++) {
                int arm = armOf(p, like(walkers.get(walker), heart, walkers.get(walker).load));
                most = Math.max(most, crowds.merge(arm, 1, Integer::sum));
            }
            if (most < least) {
                least = most;
                best = p;
            }
        }
        return best == NOT || what == 0 ? best : least;
    }

    public int weathers(int aw, int t) {
        if (!isAw(aw) || !in(t, 0, 9999)) {
            return BAD;
        }
        int bits = 0;
        for (int w = 0; w <= 9; w++) {
            int[] post = posts.get(aw / 10);
            bits |= minutes(steps(w, walkers.get(aw % 10)), post[0], post[1]) <= t ? 1 << w : 0;
        }
        return bits;
    }

    private int judged(short[] book, Walker one) {
        for (int i = 0; i < book.length; i += 2) {
            if (i + 1 == book.length || !in(book[i], 0, posts.size() - 1) || armOf(book[i], one) != book[i + 1]) {
                return i / 2;
            }
        }
        return NOT;
    }

    public int judge(int shelf, int walker) {
        if (!in(shelf, 0, 5) || !isW(walker)) {
            return BAD;
        }
        if (shelves[shelf] == null) {
            return -11;
        }
        return shelves[shelf] instanceof short[] book ? judged(book, walkers.get(walker)) : -12;
    }

    public int byHeart(int shelf, int walker, int what) {
        if (!in(shelf, 0, 5) || !isW(walker) || !in(what, 0, 1) || !(shelves[shelf] instanceof short[] book)) {
            return VOID;
        }
        int n = 0, least = -99;
        for (int heart = 9; heart >= -9; heart--) {
            if (judged(book, like(walkers.get(walker), heart, walkers.get(walker).load)) == NOT) {
                n++;
                least = heart;
            }
        }
        return what == 0 ? n : least;
    }

    public int whose(int shelf) {
        if (!in(shelf, 0, 5)) {
            return BAD;
        }
        if (shelves[shelf] == null) {
            return -11;
        }
        if (!(shelves[shelf] instanceof short[] book)) {
            return -12;
        }
        int bits = 0;
        for (int w = 0; w < walkers.size(); w++) {
            bits += judged(book, walkers.get(w)) == NOT ? 1 << w : 0;
        }
        return bits;
    }

    public int stumps() {
        int bits = 0;
        for (int p = 0; p < posts.size(); p++) {
            bits += posts.get(p)[0] == posts.get(p)[1] ? 1 << p : 0;
        }
        return bits;
    }

    public int longest(int walker, int what) {
        if (!isW(walker) || !in(what, 0, 1)) {
            return BAD;
        }
        int best = NOT, most = -1, sum = 0;
        for (int p = 0; p < posts.size(); p++) {
            int arm = armOf(p, walkers.get(walker));
            sum += arm;
            if (arm > most) {
                most = arm;
                best = p;
            }
        }
        return what == 0 ? best : sum;
    }

    public int drawn(int seed, int n, int what) {
        if (!in(n, 1, 50) || !in(what, 0, 1)) {
            return BAD;
        }
        List<Integer> arms = new ArrayList<>();
        int z = seed;
        for (int i = 0; i < n && !posts.isEmpty(); i++) {
            z = z * 1103515245 + 12345;
            Walker stranger = new Walker();
            stranger.heart = (z >>> 8) % 19 - 9;
            stranger.load = (z >>> 16) % 10;
            arms.add(armOf((z >>> 20) % posts.size(), stranger));
        }
        return what == 0 ? arms.stream().mapToInt(x -> x).sum() : arms.stream().mapToInt(x -> x).min().orElse(0);
    }

    // ---- in deed

    public int goes(int walker, int way) {
        if (!isW(walker) || !in(way, 0, 3)) {
            return BAD;
        }
        Walker one = walkers.get(walker);
        int y = one.cell / 12 + new int[] {-1, 0, 1, 0}[way];
        int x = one.cell % 12 + new int[] {0, 1, 0, -1}[way];
        if (!in(y, 0, 11) || !in(x, 0, 11)) {
            return STATE;
        }
        int minutes = stepMinutes(one.cell, 12 * y + x, one.heart, one.load, one.shoes, weather);
        one.cell = 12 * y + x;
        one.minutes += minutes;
        led[0]++;
        led[1] += minutes;
        return minutes;
    }

    public int putDown(int walker) {
        if (!isW(walker)) {
            return BAD;
        }
        int was = walkers.get(walker).load;
        led[2] += was > 0 ? 1 : 0;
        walkers.get(walker).load = 0;
        return was;
    }

    public int takes(int walker, int load) {
        if (!isW(walker) || !in(load, 1, 9)) {
            return BAD;
        }
        if (walkers.get(walker).load != 0) {
            return STATE;
        }
        walkers.get(walker).load = load;
        return 1;
    }

    public int cheer(int walker) {
        if (!isW(walker)) {
            return VOID;
        }
        Walker one = walkers.get(walker);
        one.heart += one.heart < 9 ? 1 : 0;
        led[3]++;
        return one.heart;
    }

    public int led(int what) {
        return in(what, 0, 3) ? led[what] : BAD;
    }

    public int image() {
        int[][] all = new int[walkers.size()][];
        for (int w = 0; w < all.length; w++) {
            Walker one = walkers.get(w);
            all[w] = new int[] {one.cell, one.heart, one.load, one.minutes};
        }
        image = new Image(all, led.clone());
        return led[0];
    }

    public int back() {
        if (image == null) {
            return STATE;
        }
        for (int w = 0; w < image.walkers().length; w++) {
            Walker one = walkers.get(w);
            int[] kept = image.walkers()[w];
            one.cell = kept[0];
            one.heart = kept[1];
            one.load = kept[2];
            one.minutes = kept[3];
        }
        led = image.led().clone();
        return led[0];
    }

    public int undo() {
        if (done.isEmpty()) {
            return STATE;
        }
        Change change = done.removeLast();
        undone.addLast(change);
        set(change.number(), change.what(), change.before());
        return done.size();
    }

    public int redo() {
        if (undone.isEmpty()) {
            return STATE;
        }
        Change change = undone.removeLast();
        done.addLast(change);
        set(change.number(), change.what(), change.after());
        return undone.size();
    }

    // ---- acts, shelves

    interface Points {
        int number();

        void ran(int body);

        default int points(int x) {
            ran(1);
            return x + number();
        }
    }

    interface Reads {
        void ran(int body);

        int grows(int x);

        int turns(int x);

        default int reads(int x) {
            ran(2);
            return grows(x) - turns(1);
        }
    }

    static class Heart implements Points, Reads {
        int kind, number;
        List<Integer> trace;

        public int number() {
            return number;
        }

        public void ran(int body) {
            trace.add(body);
        }

        public int grows(int x) {
            ran(10);
            return points(x) * 2;
        }

        public int turns(int x) {
            ran(11);
            return x ^ number;
        }
    }

    static class Arm extends Heart {
        @Override
        public int points(int x) {
            ran(20);
            return super.points(x) + 3;
        }
    }

    static class Mare extends Heart {
        @Override
        public int grows(int x) {
            ran(30);
            return -super.grows(x);
        }
    }

    static class Rain extends Mare {
        @Override
        public int turns(int x) {
            ran(40);
            return super.turns(x) * 3;
        }

        @Override
        public int grows(int x) {
            ran(41);
            return super.grows(x + 1);
        }
    }

    static class Wife extends Arm {
        @Override
        public int turns(int x) {
            ran(50);
            return super.turns(x) - points(2);
        }
    }

    static class Stump extends Rain {
        @Override
        public int reads(int x) {
            ran(60);
            return super.reads(x) ^ 5;
        }
    }

    static class Child extends Heart {
        @Override
        public int points(int x) {
            ran(70);
            return super.points(x) * 2;
        }
    }

    static class Basket extends Wife {
        @Override
        public int grows(int x) {
            ran(80);
            return super.grows(x) + turns(2);
        }

        @Override
        public int reads(int x) {
            ran(81);
            return super.reads(x) - 1;
        }
    }

    private static final Class<?>[] KINDS = {
        Heart.class, Arm.class, Mare.class, Rain.class, Wife.class, Stump.class, Child.class, Basket.class};

    public int body(int kind) {
        if (!in(kind, 0, 7)) {
            return BAD;
        }
        if (hearts.size() == 50) {
            return FULL;
        }
        Heart heart = switch (kind) {
            case 0 -> new Heart();
            case 1 -> new Arm();
            case 2 -> new Mare();
            case 3 -> new Rain();
            case 4 -> new Wife();
            case 5 -> new Stump();
            case 6 -> new Child();
            default -> new Basket();
        };
        heart.kind = kind;
        heart.number = hearts.size();
        heart.trace = trace;
        hearts.add(heart);
        return heart.number;
    }

    public int act(int body, int act, int x) {
        trace.clear();
        if (!in(body, 0, hearts.size() - 1)) {
            return 0;
        }
        Heart heart = hearts.get(body);
        return switch (act) {
            case 0 -> heart.points(x);
            case 1 -> heart.grows(x);
            case 2 -> heart.turns(x);
            case 3 -> heart.reads(x);
            default -> 0;
        };
    }

    public int trace(int i) {
        return in(i, 0, Math.min(24, trace.size()) - 1) ? trace.get(i) : BAD;
    }

    public int keep(int shelf, int body) {
        if (!in(shelf, 0, 5) || !in(body, -1, hearts.size() - 1)) {
            return BAD;
        }
        shelves[shelf] = body < 0 ? null : hearts.get(body);
        return 1;
    }

    public int row(int shelf, int sort, int n) {
        if (!in(shelf, 0, 5) || !in(sort, 0, 4) || n > 60) {
            return BAD;
        }
        try {
            shelves[shelf] = switch (sort) {
                case 0 -> new byte[n];
                case 1 -> new short[n];
                case 2 -> new int[n];
                case 3 -> new long[n];
                default -> new boolean[n];
            };
        } catch (NegativeArraySizeException below) {
            return -14;
        }
        return 1;
    }

    public int put(int shelf, int i, long v) {
        if (!in(shelf, 0, 5)) {
            return BAD;
        }
        Object held = shelves[shelf];
        try {
            if (held == null) {
                return -11;
            } else if (held instanceof byte[] row) {
                row[i] = (byte) v;
            } else if (held instanceof short[] row) {
                row[i] = (short) v;
            } else if (held instanceof int[] row) {
                row[i] = (int) v;
            } else if (held instanceof long[] row) {
                row[i] = v;
            } else if (held instanceof boolean[] row) {
                row[i] = v != 0;
            } else {
                return -12;
            }
        } catch (ArrayIndexOutOfBoundsException out) {
            return -13;
        }
        return 1;
    }

    public long element(int shelf, int i) {
        try {
            Object held = shelves[shelf];
            return held instanceof boolean[] row ? row[i] ? 1 : 0 : java.lang.reflect.Array.getLong(held, i);
        } catch (RuntimeException refused) {
            return Long.MIN_VALUE;
        }
    }

    @SuppressWarnings("SuspiciousSystemArraycopy")
    public int shift(int shelf, int i, int other, int j, int n) {
        if (!in(shelf, 0, 5) || !in(other, 0, 5)) {
            return BAD;
        }
        try {
            System.arraycopy(shelves[shelf], i, shelves[other], j, n);
            return n;
        } catch (NullPointerException nothing) {
            return -11;
        } catch (ArrayStoreException unlike) {
            return -12;
        } catch (IndexOutOfBoundsException place) {
            return -13;
        }
    }

    public int taken(int shelf, int k) {
        if (!in(shelf, 0, 5) || !in(k, 0, 7)) {
            return BAD;
        }
        if (shelves[shelf] == null) {
            return -11;
        }
        return KINDS[k].isInstance(shelves[shelf]) ? ((Heart) shelves[shelf]).kind : -12;
    }

    public int count(int what) {
        return switch (what) {
            case 0 -> posts.size();
            case 1 -> walkers.size();
            case 2 -> tape.size();
            case 3 -> done.size();
            case 4 -> hearts.size();
            case 5 -> trace.size();
            default -> BAD;
        };
    }
}
