import java.util.Arrays;

/** A moor whose posts tell each walker how far it would be for him. README.md says how to use it. */
public final class FingerSaysFar {
    public static final int BAD = -1, NOT = -2, FULL = -3, STATE = -5, VOID = -2000000000;

    private static final int NOTHING_THERE = -11, OTHER_KIND = -12, NO_PLACE = -13, SIZE_BELOW_ZERO = -14;
    private static final int SIDE = 12, CELLS = 144, POSTS = 8, WALKERS = 6;
    private static final int HEART_LEAST = -9, HEART_MOST = 9, HEARTS = 19, NO_HEART = -99;
    private static final int LOAD_MOST = 9, WEATHER_MOST = 9, HEIGHTS = 10;
    private static final int SHOES_LEAST = 1, SHOES_MOST = 9, SHOES_FIRST = 5;
    private static final int STEP_MOST = 99, REACH_MOST = 999, MINUTES_MOST = 9999;
    private static final int ROUND_POSTS = 5, STRANGERS = 50;
    private static final int TAPE = 120, OPEN_MOST = 6;
    private static final int CHANGES = 40, BODIES = 50, KINDS = 8, ACTS = 4, TRACE = 24;
    private static final int SHELVES = 6, ELEMENTS = 60;
    private static final int BYTES = 0, SHORTS = 1, INTS = 2, LONGS = 3, BOOLEANS = 4;
    private static final int WHAT_HEIGHT = 0, WHAT_CELL = 1, WHAT_TO = 2, WHAT_HEART = 3, WHAT_LOAD = 4;
    private static final int WHAT_SHOES = 5, WHAT_WEATHER = 6, WHAT_STANDS = 7, WHAT_MINUTES = 8;
    private static final int LED_STEPS = 0, LED_MINUTES = 1, LED_LOADS = 2, LED_CHEERS = 3, LED = 4;
    private static final int UP = 0, RIGHT = 1, DOWN = 2, LEFT = 3, SIDES = 4;
    private static final int ALL_CELLS = -1;

    private final Moor moor = new Moor();
    private final Tape tape = new Tape();
    private Law ruling = new Law();
    private Law draft = new Law();
    private final Pace pace = new Pace();
    private final Pace otherPace = new Pace();
    private final Finder finder = new Finder();
    private final Tour tour = new Tour();
    private final Changes changes = new Changes();
    private final Kept kept = new Kept();
    private final Bodies bodies = new Bodies();
    private final Shelf[] shelves = new Shelf[SHELVES];
    private final int[] knownArms = new int[POSTS];
    private final int[] armsByHeart = new int[POSTS * HEARTS];

    public FingerSaysFar() {
        for (int i = 0; i < SHELVES; i++) {
            shelves[i] = new Shelf();
        }
    }

    // ---- posts, walkers

    public int post(int ft) {
        if (!isFromTo(ft)) {
            return BAD;
        }
        return moor.addPost(fromOf(ft), toOf(ft));
    }

    public int walker(int heart) {
        if (!within(heart, HEART_LEAST, HEART_MOST)) {
            return BAD;
        }
        return moor.addWalker(heart, 0, SHOES_FIRST);
    }

    public int walkers(int shelf, int i, int n) {
        if (!isShelf(shelf) || !within(n, 1, WALKERS)) {
            return BAD;
        }
        Shelf from = shelves[shelf];
        if (from.isEmpty()) {
            return 0;
        }
        if (!from.isRowOf(BYTES)) {
            return OTHER_KIND;
        }
        int came = 0;
        while (came < n && i >= 0 && i < ELEMENTS && addFromRow(from, i + 3 * came)) {
            came++;
        }
        return came;
    }

    public int mend(int number, int what, int v) {
        if (!moor.isThere(number, what) || !Moor.isFit(what, v)) {
            return VOID;
        }
        int was = moor.read(number, what);
        if (was != v) {
            changes.add(number, what, was, v);
            moor.write(number, what, v);
        }
        return was;
    }

    public int of(int number, int what) {
        return moor.isThere(number, what) ? moor.read(number, what) : VOID;
    }

    public int feed(int letter) {
        return within(letter, 0, 255) ? tape.add(letter) : BAD;
    }

    public int law() {
        int fault = tape.readInto(draft);
        tape.length = 0;
        if (fault >= 0) {
            return -100 - fault;
        }
        Law former = ruling;
        ruling = draft;
        draft = former;
        return 1;
    }

    // ---- ways

    public int step(int ft, int walker) {
        if (!isFromTo(ft) || !isWalker(walker) || !areSideBySide(fromOf(ft), toOf(ft))) {
            return BAD;
        }
        return stepMinutes(walker, fromOf(ft), toOf(ft));
    }

    public int arm(int aw) {
        if (!isPostAndWalker(aw)) {
            return BAD;
        }
        setPace(aw % 10);
        return armAt(aw / 10);
    }

    public int way(int ft, int walker, int k) {
        if (!isFromTo(ft) || !isWalker(walker) || k < -3) {
            return BAD;
        }
        setPace(walker);
        finder.findWay(pace, fromOf(ft), toOf(ft));
        if (k == -1) {
            return finder.far[fromOf(ft)];
        }
        if (k == -2) {
            return finder.steps;
        }
        if (k == -3) {
            return finder.climb(moor.heights);
        }
        return k <= finder.steps ? finder.path[k] : NOT;
    }

    public int reach(int cell, int walker, int t, int what) {
        if (!isCell(cell) || !isWalker(walker) || !within(t, 0, REACH_MOST) || !isFirstOrSecond(what)) {
            return BAD;
        }
        setPace(walker);
        finder.spread(pace, cell, false, ALL_CELLS, finder.far);
        int reached = 0;
        int farthest = cell;
        for (int c = 0; c < CELLS; c++) {
            if (finder.far[c] <= t) {
                reached++;
                farthest = finder.far[c] > finder.far[farthest] ? c : farthest;
            }
        }
        return what == 0 ? reached : farthest;
    }

    public int together(int ft, int ab) {
        if (!isFromTo(ft) || !areTwoWalkers(ab)) {
            return BAD;
        }
        setPace(ab / 10);
        return minutesWith(ft, ab % 10);
    }

    public int withWhom(int ft, int walker) {
        if (!isFromTo(ft) || !isWalker(walker)) {
            return BAD;
        }
        setPace(walker);
        int best = NOT;
        int least = 0;
        for (int other = 0; other < moor.walkerCount; other++) {
            if (other != walker) {
                int minutes = minutesWith(ft, other);
                if (best == NOT || minutes < least) {
                    best = other;
                    least = minutes;
                }
            }
        }
        return best;
    }

    public int meet(int ft, int ab, int what) {
        if (!isFromTo(ft) || !areTwoWalkers(ab) || !isFirstOrSecond(what)) {
            return BAD;
        }
        setPace(ab / 10);
        finder.spread(pace, fromOf(ft), false, ALL_CELLS, finder.far);
        setPace(ab % 10);
        finder.spread(pace, toOf(ft), false, ALL_CELLS, finder.otherFar);
        int where = 0;
        int least = Math.max(finder.far[0], finder.otherFar[0]);
        for (int c = 1; c < CELLS; c++) {
            int later = Math.max(finder.far[c], finder.otherFar[c]);
            if (later < least) {
                least = later;
                where = c;
            }
        }
        return what == 0 ? where : least;
    }

    public int carry(int ft, int walker, int t) {
        if (!isFromTo(ft) || !isWalker(walker) || !within(t, 0, MINUTES_MOST)) {
            return BAD;
        }
        setPace(walker);
        for (int load = LOAD_MOST; load >= 0; load--) {
            pace.withLoad(load);
            if (finder.minutes(pace, fromOf(ft), toOf(ft)) <= t) {
                return load;
            }
        }
        return NOT;
    }

    public int light(int ft, int walker, int t) {
        if (!isFromTo(ft) || !isWalker(walker) || !within(t, 0, MINUTES_MOST)) {
            return VOID;
        }
        setPace(walker);
        for (int heart = HEART_LEAST; heart <= HEART_MOST; heart++) {
            pace.withHeart(heart);
            if (finder.minutes(pace, fromOf(ft), toOf(ft)) <= t) {
                return heart;
            }
        }
        return NO_HEART;
    }

    public int backFrom(int ft, int walker, int other) {
        if (!isFromTo(ft) || !isWalker(walker) || !isCell(other)) {
            return BAD;
        }
        setPace(walker);
        finder.findWay(pace, fromOf(ft), toOf(ft));
        finder.spread(pace, other, true, ALL_CELLS, finder.otherFar);
        for (int k = finder.steps; k >= 0; k--) {
            int cell = finder.path[k];
            if (finder.otherFar[cell] <= finder.far[cell]) {
                return k;
            }
        }
        return NOT;
    }

    public int round(int cs, int walker, int k) {
        if (cs < 0 || !isCell(cs / 1000) || !isWalker(walker) || k < -1) {
            return BAD;
        }
        int set = cs % 1000;
        if (set >= 1 << moor.postCount) {
            return BAD;
        }
        if (Integer.bitCount(set) > ROUND_POSTS) {
            return STATE;
        }
        if (k >= Integer.bitCount(set)) {
            return NOT;
        }
        setPace(walker);
        measureTour(cs / 1000, set);
        tour.findBest();
        return k == -1 ? tour.least : tour.best[k];
    }

    // ---- hearts from arms

    public int hearts(int aw, int a, int what) {
        if (!isPostAndWalker(aw) || !within(a, 0, MINUTES_MOST) || !isFirstOrSecond(what)) {
            return VOID;
        }
        setPace(aw % 10);
        int fitting = 0;
        int least = NO_HEART;
        for (int heart = HEART_LEAST; heart <= HEART_MOST; heart++) {
            pace.withHeart(heart);
            if (armAt(aw / 10) == a) {
                least = fitting == 0 ? heart : least;
                fitting++;
            }
        }
        return what == 0 ? fitting : least;
    }

    public int pairs(int aw, int a) {
        if (!isPostAndWalker(aw) || !within(a, 0, MINUTES_MOST)) {
            return BAD;
        }
        setPace(aw % 10);
        int fitting = 0;
        for (int heart = HEART_LEAST; heart <= HEART_MOST; heart++) {
            for (int load = 0; load <= LOAD_MOST; load++) {
                pace.withHeartAndLoad(heart, load);
                if (armAt(aw / 10) == a) {
                    fitting++;
                }
            }
        }
        return fitting;
    }

    public int next(int walker, int what) {
        if (!isWalker(walker) || !isFirstOrSecond(what)) {
            return BAD;
        }
        setPace(walker);
        fillArmsByHeart();
        int best = NOT;
        int least = 0;
        for (int post = 0; post < moor.postCount; post++) {
            int crowd = greatestCrowd(post);
            if (best == NOT || crowd < least) {
                best = post;
                least = crowd;
            }
        }
        return what == 0 || best == NOT ? best : least;
    }

    public int weathers(int aw, int t) {
        if (!isPostAndWalker(aw) || !within(t, 0, MINUTES_MOST)) {
            return BAD;
        }
        setPace(aw % 10);
        int bits = 0;
        for (int weather = 0; weather <= WEATHER_MOST; weather++) {
            pace.withWeather(weather);
            if (armAt(aw / 10) <= t) {
                bits |= 1 << weather;
            }
        }
        return bits;
    }

    public int judge(int shelf, int walker) {
        if (!isShelf(shelf) || !isWalker(walker)) {
            return BAD;
        }
        int refusal = refusalOfBook(shelf);
        if (refusal != 0) {
            return refusal;
        }
        setPace(walker);
        return firstWrongTwo(shelves[shelf]);
    }

    public int byHeart(int shelf, int walker, int what) {
        if (!isShelf(shelf) || !isWalker(walker) || !isFirstOrSecond(what) || refusalOfBook(shelf) != 0) {
            return VOID;
        }
        setPace(walker);
        int fitting = 0;
        int least = NO_HEART;
        for (int heart = HEART_LEAST; heart <= HEART_MOST; heart++) {
            pace.withHeart(heart);
            if (firstWrongTwo(shelves[shelf]) == NOT) {
                least = fitting == 0 ? heart : least;
                fitting++;
            }
        }
        return what == 0 ? fitting : least;
    }

    public int whose(int shelf) {
        if (!isShelf(shelf)) {
            return BAD;
        }
        int refusal = refusalOfBook(shelf);
        if (refusal != 0) {
            return refusal;
        }
        int bits = 0;
        for (int walker = 0; walker < moor.walkerCount; walker++) {
            setPace(walker);
            if (firstWrongTwo(shelves[shelf]) == NOT) {
                bits |= 1 << walker;
            }
        }
        return bits;
    }

    public int stumps() {
        int bits = 0;
        for (int post = 0; post < moor.postCount; post++) {
            if (moor.postCell[post] == moor.postTo[post]) {
                bits |= 1 << post;
            }
        }
        return bits;
    }

    public int longest(int walker, int what) {
        if (!isWalker(walker) || !isFirstOrSecond(what)) {
            return BAD;
        }
        setPace(walker);
        int best = NOT;
        int most = 0;
        int sum = 0;
        for (int post = 0; post < moor.postCount; post++) {
            int minutes = armAt(post);
            sum += minutes;
            if (best == NOT || minutes > most) {
                best = post;
                most = minutes;
            }
        }
        return what == 0 ? best : sum;
    }

    public int drawn(int seed, int n, int what) {
        if (!within(n, 1, STRANGERS) || !isFirstOrSecond(what)) {
            return BAD;
        }
        if (moor.postCount <= 0) {
            return 0;
        }
        int z = seed;
        int sum = 0;
        int shortest = 0;
        for (int i = 0; i < n; i++) {
            z = z * 1103515245 + 12345;
            pace.become(ruling, moor, (z >>> 8) % HEARTS + HEART_LEAST, (z >>> 16) % 10, SHOES_FIRST);
            int minutes = armAt((z >>> 20) % moor.postCount);
            sum += minutes;
            shortest = i == 0 ? minutes : Math.min(shortest, minutes);
        }
        return what == 0 ? sum : shortest;
    }

    // ---- in deed

    public int goes(int walker, int way) {
        if (!isWalker(walker) || !within(way, 0, SIDES - 1)) {
            return BAD;
        }
        int from = moor.stands[walker];
        int to = sideCell(from, way);
        if (to < 0) {
            return STATE;
        }
        int minutes = stepMinutes(walker, from, to);
        moor.stands[walker] = to;
        moor.minutes[walker] += minutes;
        moor.led[LED_STEPS]++;
        moor.led[LED_MINUTES] += minutes;
        return minutes;
    }

    public int putDown(int walker) {
        if (!isWalker(walker)) {
            return BAD;
        }
        int was = moor.load[walker];
        moor.load[walker] = 0;
        if (was > 0) {
            moor.led[LED_LOADS]++;
        }
        return was;
    }

    public int takes(int walker, int load) {
        if (!isWalker(walker) || !within(load, 1, LOAD_MOST)) {
            return BAD;
        }
        if (moor.load[walker] > 0) {
            return STATE;
        }
        moor.load[walker] = load;
        return 1;
    }

    public int cheer(int walker) {
        if (!isWalker(walker)) {
            return VOID;
        }
        moor.heart[walker] = Math.min(HEART_MOST, moor.heart[walker] + 1);
        moor.led[LED_CHEERS]++;
        return moor.heart[walker];
    }

    public int led(int what) {
        return within(what, 0, LED - 1) ? moor.led[what] : BAD;
    }

    public int image() {
        kept.take(moor);
        return moor.led[LED_STEPS];
    }

    public int back() {
        if (!kept.isTaken) {
            return STATE;
        }
        kept.layBack(moor);
        return moor.led[LED_STEPS];
    }

    public int undo() {
        return changes.takeBack(moor);
    }

    public int redo() {
        return changes.doAgain(moor);
    }

    // ---- acts, shelves

    public int body(int kind) {
        return within(kind, 0, KINDS - 1) ? bodies.add(kind) : BAD;
    }

    public int act(int body, int act, int x) {
        return bodies.perform(body, act, x);
    }

    public int trace(int i) {
        return within(i, 0, Math.min(bodies.ran, TRACE) - 1) ? bodies.begun[i] : BAD;
    }

    public int keep(int shelf, int body) {
        if (!isShelf(shelf) || body != -1 && !bodies.isThere(body)) {
            return BAD;
        }
        if (body == -1) {
            shelves[shelf].becomeEmpty();
        } else {
            shelves[shelf].becomeHeart(body);
        }
        return 1;
    }

    public int row(int shelf, int sort, int n) {
        if (!isShelf(shelf) || !within(sort, BYTES, BOOLEANS) || n > ELEMENTS) {
            return BAD;
        }
        if (n < 0) {
            return SIZE_BELOW_ZERO;
        }
        shelves[shelf].becomeRow(sort, n);
        return 1;
    }

    public int put(int shelf, int i, long v) {
        if (!isShelf(shelf)) {
            return BAD;
        }
        int refusal = shelves[shelf].refusalAt(i);
        if (refusal != 0) {
            return refusal;
        }
        shelves[shelf].values[i] = shelves[shelf].lowestBits(v);
        return 1;
    }

    public long element(int shelf, int i) {
        if (!isShelf(shelf) || shelves[shelf].refusalAt(i) != 0) {
            return Long.MIN_VALUE;
        }
        return shelves[shelf].values[i];
    }

    public int shift(int shelf, int i, int other, int j, int n) {
        if (!isShelf(shelf) || !isShelf(other)) {
            return BAD;
        }
        Shelf from = shelves[shelf];
        Shelf to = shelves[other];
        if (from.isEmpty() || to.isEmpty()) {
            return NOTHING_THERE;
        }
        if (!from.isRow() || !to.isRowOf(from.sort)) {
            return OTHER_KIND;
        }
        if (!from.hasPlaces(i, n) || !to.hasPlaces(j, n)) {
            return NO_PLACE;
        }
        System.arraycopy(from.values, i, to.values, j, n);
        return n;
    }

    public int taken(int shelf, int k) {
        if (!isShelf(shelf) || !within(k, 0, KINDS - 1)) {
            return BAD;
        }
        Shelf from = shelves[shelf];
        if (from.isEmpty()) {
            return NOTHING_THERE;
        }
        if (!bodies.isThere(from.heart) || !Bodies.isUnder(bodies.kinds[from.heart], k)) {
            return OTHER_KIND;
        }
        return bodies.kinds[from.heart];
    }

    public int count(int what) {
        switch (what) {
            case 0:
                return moor.postCount;
            case 1:
                return moor.walkerCount;
            case 2:
                return tape.length;
            case 3:
                return changes.done;
            case 4:
                return bodies.size;
            case 5:
                return bodies.ran;
            default:
                return BAD;
        }
    }

    // ---- what the calls share

    private static boolean within(int v, int least, int most) {
        return v >= least && v <= most;
    }

    private static boolean isFirstOrSecond(int what) {
        return what == 0 || what == 1;
    }

    private static boolean isCell(int cell) {
        return within(cell, 0, CELLS - 1);
    }

    private static boolean isFromTo(int ft) {
        return ft >= 0 && isCell(fromOf(ft)) && isCell(toOf(ft));
    }

    private static int fromOf(int ft) {
        return ft / 1000;
    }

    private static int toOf(int ft) {
        return ft % 1000;
    }

    private static boolean isShelf(int shelf) {
        return within(shelf, 0, SHELVES - 1);
    }

    private boolean isWalker(int walker) {
        return within(walker, 0, moor.walkerCount - 1);
    }

    private boolean isPostAndWalker(int aw) {
        return aw >= 0 && aw / 10 < moor.postCount && isWalker(aw % 10);
    }

    private boolean areTwoWalkers(int ab) {
        return ab >= 0 && isWalker(ab / 10) && isWalker(ab % 10) && ab / 10 != ab % 10;
    }

    /** The CELL beside a CELL on one of its sides; -1 over the edge. */
    private static int sideCell(int cell, int side) {
        switch (side) {
            case UP:
                return cell >= SIDE ? cell - SIDE : -1;
            case RIGHT:
                return cell % SIDE < SIDE - 1 ? cell + 1 : -1;
            case DOWN:
                return cell < CELLS - SIDE ? cell + SIDE : -1;
            case LEFT:
                return cell % SIDE > 0 ? cell - 1 : -1;
            default:
                return -1;
        }
    }

    private static boolean areSideBySide(int cell, int other) {
        for (int side = 0; side < SIDES; side++) {
            if (sideCell(cell, side) == other) {
                return true;
            }
        }
        return false;
    }

    private boolean addFromRow(Shelf from, int i) {
        if (!from.hasPlaces(i, 3) || moor.walkerCount >= WALKERS) {
            return false;
        }
        int heart = (int) from.values[i];
        int load = (int) from.values[i + 1];
        int shoes = (int) from.values[i + 2];
        boolean fit = Moor.isFit(WHAT_HEART, heart) && Moor.isFit(WHAT_LOAD, load) && Moor.isFit(WHAT_SHOES, shoes);
        return fit && moor.addWalker(heart, load, shoes) >= 0;
    }

    private void setPace(int walker) {
        pace.become(ruling, moor, moor.heart[walker], moor.load[walker], moor.shoes[walker]);
    }

    private int stepMinutes(int walker, int from, int to) {
        int h = moor.heights[to];
        int u = h - moor.heights[from];
        return ruling.minutes(u, moor.heart[walker], moor.load[walker], moor.shoes[walker], moor.weather, h);
    }

    /** THE ARM of a POST by the pace that is set. */
    private int armAt(int post) {
        return finder.minutes(pace, moor.postCell[post], moor.postTo[post]);
    }

    /** TOGETHER of him whose pace is set, and another. */
    private int minutesWith(int ft, int other) {
        otherPace.become(ruling, moor, moor.heart[other], moor.load[other], moor.shoes[other]);
        otherPace.slowTo(pace);
        return finder.minutes(otherPace, fromOf(ft), toOf(ft));
    }

    /** Hearts outside, posts inside: so each heart's step minutes are worked out once. */
    private void fillArmsByHeart() {
        for (int i = 0; i < HEARTS; i++) {
            pace.withHeart(HEART_LEAST + i);
            for (int post = 0; post < moor.postCount; post++) {
                armsByHeart[post * HEARTS + i] = armAt(post);
            }
        }
    }

    private int greatestCrowd(int post) {
        int greatest = 0;
        for (int i = 0; i < HEARTS; i++) {
            int crowd = 0;
            for (int j = 0; j < HEARTS; j++) {
                if (armsByHeart[post * HEARTS + i] == armsByHeart[post * HEARTS + j]) {
                    crowd++;
                }
            }
            greatest = Math.max(greatest, crowd);
        }
        return greatest;
    }

    /** 0, or why what the SHELF holds is no BOOK. */
    private int refusalOfBook(int shelf) {
        if (shelves[shelf].isEmpty()) {
            return NOTHING_THERE;
        }
        return shelves[shelf].isRowOf(SHORTS) ? 0 : OTHER_KIND;
    }

    /** The first two of a BOOK that is not so by the pace that is set; NOT. */
    private int firstWrongTwo(Shelf book) {
        Arrays.fill(knownArms, -1);
        for (int i = 0; i < book.size; i += 2) {
            int post = (int) book.values[i];
            if (i + 1 >= book.size || !within(post, 0, moor.postCount - 1)) {
                return i / 2;
            }
            if (knownArms[post] < 0) {
                knownArms[post] = armAt(post);
            }
            if (knownArms[post] != book.values[i + 1]) {
                return i / 2;
            }
        }
        return NOT;
    }

    /** Tells the tour the minutes among the CELL it begins in and the POSTS of the set. */
    private void measureTour(int start, int set) {
        tour.begin();
        for (int post = 0; post < moor.postCount; post++) {
            if ((set >> post & 1) != 0) {
                tour.addStop(post);
            }
        }
        for (int from = 0; from <= tour.stops; from++) {
            finder.spread(pace, tourCell(start, from), false, ALL_CELLS, finder.far);
            for (int to = 0; to <= tour.stops; to++) {
                tour.measure(from, to, finder.far[tourCell(start, to)]);
            }
        }
    }

    /** Place 0 of a tour is where it begins, place i its i-th stop. */
    private int tourCell(int start, int place) {
        return place == 0 ? start : moor.postCell[tour.posts[place]];
    }

    /** All numbers of cells, posts and walkers. */
    private static final class Moor {
        final int[] heights = new int[CELLS];
        final int[] postCell = new int[POSTS];
        final int[] postTo = new int[POSTS];
        int postCount;
        final int[] heart = new int[WALKERS];
        final int[] load = new int[WALKERS];
        final int[] shoes = new int[WALKERS];
        final int[] stands = new int[WALKERS];
        final int[] minutes = new int[WALKERS];
        int walkerCount;
        int weather;
        final int[] led = new int[LED];

        int addPost(int cell, int to) {
            if (postCount >= POSTS) {
                return FULL;
            }
            postCell[postCount] = cell;
            postTo[postCount] = to;
            return postCount++;
        }

        int addWalker(int itsHeart, int itsLoad, int itsShoes) {
            if (walkerCount >= WALKERS) {
                return FULL;
            }
            heart[walkerCount] = itsHeart;
            load[walkerCount] = itsLoad;
            shoes[walkerCount] = itsShoes;
            return walkerCount++;
        }

        boolean isThere(int number, int what) {
            switch (what) {
                case WHAT_HEIGHT:
                    return isCell(number);
                case WHAT_CELL:
                case WHAT_TO:
                    return within(number, 0, postCount - 1);
                case WHAT_HEART:
                case WHAT_LOAD:
                case WHAT_SHOES:
                case WHAT_STANDS:
                case WHAT_MINUTES:
                    return within(number, 0, walkerCount - 1);
                case WHAT_WEATHER:
                    return number == 0;
                default:
                    return false;
            }
        }

        /** Whether mend() may tell v; never for what deeds alone move. */
        static boolean isFit(int what, int v) {
            switch (what) {
                case WHAT_HEIGHT:
                    return within(v, 0, HEIGHTS - 1);
                case WHAT_CELL:
                case WHAT_TO:
                    return isCell(v);
                case WHAT_HEART:
                    return within(v, HEART_LEAST, HEART_MOST);
                case WHAT_LOAD:
                    return within(v, 0, LOAD_MOST);
                case WHAT_SHOES:
                    return within(v, SHOES_LEAST, SHOES_MOST);
                case WHAT_WEATHER:
                    return within(v, 0, WEATHER_MOST);
                default:
                    return false;
            }
        }

        /** The row in which the number stands; null for what has none. */
        private int[] rowOf(int what) {
            switch (what) {
                case WHAT_HEIGHT:
                    return heights;
                case WHAT_CELL:
                    return postCell;
                case WHAT_TO:
                    return postTo;
                case WHAT_HEART:
                    return heart;
                case WHAT_LOAD:
                    return load;
                case WHAT_SHOES:
                    return shoes;
                case WHAT_STANDS:
                    return stands;
                case WHAT_MINUTES:
                    return minutes;
                default:
                    return null;
            }
        }

        int read(int number, int what) {
            int[] numbers = rowOf(what);
            if (numbers == null || !within(number, 0, numbers.length - 1)) {
                return weather;
            }
            return numbers[number];
        }

        void write(int number, int what, int v) {
            int[] numbers = rowOf(what);
            if (numbers == null || !within(number, 0, numbers.length - 1)) {
                weather = v;
            } else {
                numbers[number] = v;
            }
        }
    }

    /** THE LAW as a row of orders for a stack; until a text is read into it, the law of the beginning. */
    private static final class Law {
        static final int NUMBER = '#', NAME = 'n', LESSEN = '~', SKIP = '?', END = ';';
        private static final int ORDERS = TAPE + 1, DEEPEST = 64, NAMES = 6;

        private final int[] orders = new int[ORDERS];
        private final int[] with = new int[ORDERS];
        private final int[] names = new int[NAMES];
        private final int[] stack = new int[DEEPEST];
        private int size;
        private boolean isText;

        void beginText() {
            isText = true;
            size = 0;
        }

        int add(int order, int number) {
            if (size >= ORDERS) {
                return size;
            }
            orders[size] = order;
            with[size] = number;
            return size++;
        }

        /** From this SKIP on, what is left out ends at that END. */
        void join(int skip, int end) {
            if (within(skip, 0, size - 1) && skip < end) {
                with[skip] = end;
            }
        }

        int minutes(int u, int k, int l, int s, int w, int h) {
            int told;
            if (isText) {
                names[0] = u;
                names[1] = k;
                names[2] = l;
                names[3] = s;
                names[4] = w;
                names[5] = h;
                told = work();
            } else {
                told = 10 + 3 * Math.max(u, 0) + l + w - k - s;
            }
            return Math.max(1, Math.min(STEP_MOST, told));
        }

        /** What a sound text gives; its orders take no more from the stack than lies there. */
        private int work() {
            int top = 0;
            for (int at = 0; at < size; at++) {
                int order = orders[at];
                if (order == NUMBER || order == NAME) {
                    if (top >= DEEPEST) {
                        return 0;
                    }
                    stack[top] = order == NUMBER ? with[at] : valueOf(with[at]);
                    top++;
                    continue;
                }
                if (top <= 0) {
                    return 0;
                }
                int last = stack[top - 1];
                if (order == END) {
                    return last;
                } else if (order == SKIP) {
                    top--;
                    at = last == 0 ? Math.max(at, with[at]) : at;
                } else if (order == LESSEN) {
                    stack[top - 1] = -last;
                } else if (order == '!') {
                    stack[top - 1] = last == 0 ? 1 : 0;
                } else if (top >= 2) {
                    top--;
                    stack[top - 1] = joined(stack[top - 1], order, last);
                }
            }
            return 0;
        }

        private int valueOf(int name) {
            return name >= 0 && name < NAMES ? names[name] : 0;
        }

        private static int joined(int left, int sign, int right) {
            switch (sign) {
                case '|':
                    return left != 0 || right != 0 ? 1 : 0;
                case '&':
                    return left != 0 && right != 0 ? 1 : 0;
                case '<':
                    return left < right ? 1 : 0;
                case '=':
                    return left == right ? 1 : 0;
                case '>':
                    return left > right ? 1 : 0;
                case '+':
                    return left + right;
                case '-':
                    return left - right;
                case '*':
                    return left * right;
                case '/':
                    return right == 0 ? 0 : left / right;
                case '%':
                    return right == 0 ? 0 : left % right;
                default:
                    return 0;
            }
        }
    }

    /** THE TAPE, and the reading of it into a LAW. */
    private static final class Tape {
        private static final int COMPARES = 2, OPERANDS = 5;

        private final int[] letters = new int[TAPE];
        int length;
        private int place;
        private int fault;
        private Law law;

        int add(int letter) {
            if (length >= TAPE) {
                return FULL;
            }
            letters[length] = letter;
            length++;
            return length;
        }

        /** The place of the FAULT; -1 if there is none. */
        int readInto(Law into) {
            law = into;
            law.beginText();
            place = 0;
            fault = -1;
            readLine();
            for (int i = 0; i < TAPE && fault < 0 && letter() == ';'; i++) {
                place++;
                readLine();
            }
            if (place < length) {
                fail();
            }
            return fault;
        }

        private int letter() {
            return place >= 0 && place < length ? letters[place] : -1;
        }

        private void fail() {
            if (fault < 0) {
                fault = place;
            }
        }

        private void readLine() {
            readLevel(0, 0);
            if (fault < 0 && letter() == '?') {
                place++;
                int skip = law.add(Law.SKIP, 0);
                readLevel(0, 0);
                law.join(skip, law.add(Law.END, 0));
            } else {
                law.add(Law.END, 0);
            }
        }

        /** Levels: 0 E, 1 A, 2 B, 3 S, 4 P, 5 O. */
        private void readLevel(int level, int open) {
            if (level >= OPERANDS) {
                readOperand(open);
                return;
            }
            readLevel(level + 1, open);
            for (int i = 0; i < TAPE && fault < 0 && joinsAt(level, letter()); i++) {
                int sign = letter();
                place++;
                readLevel(level + 1, open);
                law.add(sign, 0);
                if (level == COMPARES) {
                    return;
                }
            }
        }

        private static boolean joinsAt(int level, int letter) {
            switch (letter) {
                case '|':
                    return level == 0;
                case '&':
                    return level == 1;
                case '<':
                case '=':
                case '>':
                    return level == COMPARES;
                case '+':
                case '-':
                    return level == 3;
                case '*':
                case '/':
                case '%':
                    return level == 4;
                default:
                    return false;
            }
        }

        private void readOperand(int open) {
            int letter = letter();
            if (isDigit(letter)) {
                readNumber();
            } else if (nameOf(letter) >= 0) {
                place++;
                law.add(Law.NAME, nameOf(letter));
            } else if (open >= OPEN_MOST) {
                fail();
            } else if (letter == '!' || letter == '-') {
                place++;
                readOperand(open + 1);
                law.add(letter == '!' ? '!' : Law.LESSEN, 0);
            } else if (letter == '(') {
                place++;
                readLevel(0, open + 1);
                closeBracket();
            } else {
                fail();
            }
        }

        private void closeBracket() {
            if (letter() == ')') {
                place += fault < 0 ? 1 : 0;
            } else {
                fail();
            }
        }

        private void readNumber() {
            int number = 0;
            for (int digits = 0; digits < 4 && isDigit(letter()); digits++) {
                number = number * 10 + letter() - '0';
                place++;
            }
            law.add(Law.NUMBER, number);
        }

        private static boolean isDigit(int letter) {
            return letter >= '0' && letter <= '9';
        }

        private static int nameOf(int letter) {
            switch (letter) {
                case 'u':
                    return 0;
                case 'k':
                    return 1;
                case 'l':
                    return 2;
                case 's':
                    return 3;
                case 'w':
                    return 4;
                case 'h':
                    return 5;
                default:
                    return -1;
            }
        }
    }

    /** How many minutes each step takes one. */
    private static final class Pace {
        private static final int PAIRS = HEIGHTS * HEIGHTS;

        // A step's minutes hang on its two heights alone, so they are worked out once for each pair of heights
        // that lie side by side, and not for each step.
        private final int[] known = new int[PAIRS];
        private final int[] wanted = new int[PAIRS];
        private Law law;
        private int[] heights;
        private int heart;
        private int load;
        private int shoes;
        private int weather;

        void become(Law ruling, Moor moor, int itsHeart, int itsLoad, int itsShoes) {
            law = ruling;
            heights = moor.heights;
            weather = moor.weather;
            heart = itsHeart;
            load = itsLoad;
            shoes = itsShoes;
            lookForPairs(moor.heights);
            fill();
        }

        void withHeart(int itsHeart) {
            heart = itsHeart;
            fill();
        }

        void withLoad(int itsLoad) {
            load = itsLoad;
            fill();
        }

        void withHeartAndLoad(int itsHeart, int itsLoad) {
            heart = itsHeart;
            load = itsLoad;
            fill();
        }

        void withWeather(int itsWeather) {
            weather = itsWeather;
            fill();
        }

        private void lookForPairs(int[] of) {
            Arrays.fill(wanted, 0);
            for (int cell = 0; cell < CELLS; cell++) {
                if (cell % SIDE < SIDE - 1) {
                    want(of[cell], of[cell + 1]);
                }
                if (cell < CELLS - SIDE) {
                    want(of[cell], of[cell + SIDE]);
                }
            }
        }

        private void want(int height, int other) {
            wanted[height * HEIGHTS + other] = 1;
            wanted[other * HEIGHTS + height] = 1;
        }

        private void fill() {
            for (int pair = 0; pair < PAIRS && law != null; pair++) {
                if (wanted[pair] != 0) {
                    int to = pair % HEIGHTS;
                    known[pair] = law.minutes(to - pair / HEIGHTS, heart, load, shoes, weather, to);
                }
            }
        }

        /** From now on no step is faster than the other's. */
        void slowTo(Pace other) {
            for (int pair = 0; pair < PAIRS; pair++) {
                known[pair] = Math.max(known[pair], other.known[pair]);
            }
        }

        /** Of a step from a CELL to a side CELL. */
        int minutes(int from, int to) {
            return heights == null ? STEP_MOST : known[heights[from] * HEIGHTS + heights[to]];
        }
    }

    /** SHORTEST WAYS. Cells wait in a ring of lists, one for each minute that a step may still add. */
    private static final class Finder {
        private static final int RING = STEP_MOST + 1, ENTRIES = CELLS * SIDES + 1, NEVER = CELLS * STEP_MOST;

        final int[] far = new int[CELLS];
        final int[] otherFar = new int[CELLS];
        final int[] path = new int[CELLS];
        int steps;
        private final int[] head = new int[RING];
        private final int[] link = new int[ENTRIES];
        private final int[] cellOf = new int[ENTRIES];
        private int entries;
        private int waiting;

        int minutes(Pace pace, int from, int to) {
            if (from == to) {
                return 0;
            }
            spread(pace, from, false, to, far);
            return far[to];
        }

        /** Fills far with the minutes from a CELL to each, or (turned) from each to it; at the goal it stops. */
        void spread(Pace pace, int start, boolean turned, int goal, int[] farOf) {
            Arrays.fill(farOf, NEVER);
            Arrays.fill(head, -1);
            entries = 0;
            waiting = 0;
            farOf[start] = 0;
            enter(start, 0);
            for (int now = 0; now < NEVER && waiting > 0; now++) {
                int slot = now % RING;
                int entry = head[slot];
                for (int seen = 0; seen < ENTRIES && entry >= 0; seen++) {
                    int cell = cellOf[entry];
                    entry = link[entry];
                    waiting--;
                    if (farOf[cell] == now) {
                        if (cell == goal) {
                            return;
                        }
                        relax(pace, cell, turned, farOf);
                    }
                }
                head[slot] = -1;
            }
        }

        private void relax(Pace pace, int cell, boolean turned, int[] farOf) {
            for (int way = 0; way < SIDES; way++) {
                int side = sideCell(cell, way);
                if (side >= 0 && farOf[side] > farOf[cell]) {
                    int step = turned ? pace.minutes(side, cell) : pace.minutes(cell, side);
                    if (farOf[cell] + step < farOf[side]) {
                        farOf[side] = farOf[cell] + step;
                        enter(side, farOf[side]);
                    }
                }
            }
        }

        private void enter(int cell, int when) {
            if (entries < ENTRIES) {
                int slot = when % RING;
                cellOf[entries] = cell;
                link[entries] = head[slot];
                head[slot] = entries;
                entries++;
                waiting++;
            }
        }

        /** The SHORTEST WAY into path; far then has the minutes from each CELL to its end. */
        void findWay(Pace pace, int from, int to) {
            spread(pace, to, true, ALL_CELLS, far);
            steps = 0;
            path[0] = from;
            int cell = from;
            while (steps < CELLS - 1 && cell != to) {
                cell = onward(pace, cell);
                steps++;
                path[steps] = cell;
            }
        }

        /** The side CELL of the least number by which the way is still shortest. */
        private int onward(Pace pace, int cell) {
            int best = -1;
            for (int way = 0; way < SIDES; way++) {
                int side = sideCell(cell, way);
                boolean isLess = side >= 0 && (best < 0 || side < best);
                if (isLess && pace.minutes(cell, side) + far[side] == far[cell]) {
                    best = side;
                }
            }
            return best < 0 ? cell : best;
        }

        /** How much the way that was found goes up. */
        int climb(int[] heights) {
            int sum = 0;
            for (int k = 1; k <= steps; k++) {
                sum += Math.max(0, heights[path[k]] - heights[path[k - 1]]);
            }
            return sum;
        }
    }

    /** A ROUND: the best order of its stops, by trying all of them, the first by numbers first. */
    private static final class Tour {
        private static final int PLACES = ROUND_POSTS + 1, UNKNOWN = Integer.MAX_VALUE;

        final int[] posts = new int[PLACES];
        int stops;
        private final int[] minutes = new int[PLACES * PLACES];
        private final int[] order = new int[PLACES];
        final int[] best = new int[PLACES];
        int least;

        void begin() {
            stops = 0;
        }

        void addStop(int post) {
            if (stops < ROUND_POSTS) {
                stops++;
                posts[stops] = post;
            }
        }

        void measure(int from, int to, int itTakes) {
            minutes[from * PLACES + to] = itTakes;
        }

        void findBest() {
            least = UNKNOWN;
            goOn(0, 0, 0, 0);
        }

        private void goOn(int depth, int at, int passed, int sum) {
            if (depth >= stops || depth >= ROUND_POSTS) {
                finish(sum + minutes[at * PLACES]);
                return;
            }
            for (int place = 1; place <= stops; place++) {
                if ((passed >> place & 1) == 0) {
                    order[depth] = posts[place];
                    goOn(depth + 1, place, passed | 1 << place, sum + minutes[at * PLACES + place]);
                }
            }
        }

        private void finish(int sum) {
            if (sum < least) {
                least = sum;
                System.arraycopy(order, 0, best, 0, PLACES);
            }
        }
    }

    /** CHANGES: those done, and behind them those that may be DONE AGAIN. */
    private static final class Changes {
        private final int[] numbers = new int[CHANGES];
        private final int[] whats = new int[CHANGES];
        private final int[] befores = new int[CHANGES];
        private final int[] afters = new int[CHANGES];
        int done;
        private int all;

        void add(int number, int what, int before, int after) {
            if (done >= CHANGES) {
                forgetOldest();
            }
            numbers[done] = number;
            whats[done] = what;
            befores[done] = before;
            afters[done] = after;
            done++;
            all = done;
        }

        private void forgetOldest() {
            done = CHANGES - 1;
            System.arraycopy(numbers, 1, numbers, 0, done);
            System.arraycopy(whats, 1, whats, 0, done);
            System.arraycopy(befores, 1, befores, 0, done);
            System.arraycopy(afters, 1, afters, 0, done);
        }

        int takeBack(Moor moor) {
            if (done <= 0) {
                return STATE;
            }
            done--;
            moor.write(numbers[done], whats[done], befores[done]);
            return done;
        }

        int doAgain(Moor moor) {
            if (done >= all) {
                return STATE;
            }
            moor.write(numbers[done], whats[done], afters[done]);
            done++;
            return all - done;
        }
    }

    /** AN IMAGE. */
    private static final class Kept {
        boolean isTaken;
        private int walkers;
        private final int[] stands = new int[WALKERS];
        private final int[] heart = new int[WALKERS];
        private final int[] load = new int[WALKERS];
        private final int[] minutes = new int[WALKERS];
        private final int[] led = new int[LED];

        void take(Moor moor) {
            isTaken = true;
            walkers = moor.walkerCount;
            System.arraycopy(moor.stands, 0, stands, 0, walkers);
            System.arraycopy(moor.heart, 0, heart, 0, walkers);
            System.arraycopy(moor.load, 0, load, 0, walkers);
            System.arraycopy(moor.minutes, 0, minutes, 0, walkers);
            System.arraycopy(moor.led, 0, led, 0, LED);
        }

        /** Only as many walkers as there were then: the later ones stay as they are. */
        void layBack(Moor moor) {
            System.arraycopy(stands, 0, moor.stands, 0, walkers);
            System.arraycopy(heart, 0, moor.heart, 0, walkers);
            System.arraycopy(load, 0, moor.load, 0, walkers);
            System.arraycopy(minutes, 0, moor.minutes, 0, walkers);
            System.arraycopy(led, 0, moor.led, 0, LED);
        }
    }

    /** BODIES 0 .. 49 with their KINDS, and their ACTS. */
    private static final class Bodies {
        private static final int POINTS = 0, GROWS = 1, TURNS = 2, READS = 3;
        private static final int HEART = 0, DEEPEST = 40;
        private static final int[] ABOVE = {-1, 0, 0, 2, 1, 3, 0, 4};
        // by KIND, then by act; 0: the KIND has no such body of its own
        private static final int[] OWN = {
            1, 10, 11, 2,
            20, 0, 0, 0,
            0, 30, 0, 0,
            0, 41, 40, 0,
            0, 0, 50, 0,
            0, 0, 0, 60,
            70, 0, 0, 0,
            0, 80, 0, 81};

        final int[] kinds = new int[BODIES];
        int size;
        final int[] begun = new int[TRACE];
        int ran;
        private int self;

        int add(int kind) {
            if (size >= BODIES) {
                return FULL;
            }
            kinds[size] = kind;
            return size++;
        }

        boolean isThere(int body) {
            return within(body, 0, size - 1);
        }

        static boolean isUnder(int kind, int k) {
            int at = kind;
            for (int i = 0; i < KINDS && within(at, 0, KINDS - 1); i++) {
                if (at == k) {
                    return true;
                }
                at = ABOVE[at];
            }
            return false;
        }

        int perform(int body, int act, int x) {
            ran = 0;
            if (!isThere(body) || !within(act, 0, ACTS - 1)) {
                return 0;
            }
            self = body;
            return own(act, x, 0);
        }

        /** The act as the KIND of him who acts has it. */
        private int own(int act, int x, int depth) {
            return from(kinds[self], act, x, depth);
        }

        /** super: the act as the KINDS above this one have it. */
        private int above(int kind, int act, int x, int depth) {
            return from(ABOVE[kind], act, x, depth);
        }

        private int from(int kind, int act, int x, int depth) {
            int at = kind;
            for (int i = 0; i < KINDS && at > HEART && OWN[at * ACTS + act] == 0; i++) {
                at = ABOVE[at];
            }
            if (!within(at, 0, KINDS - 1) || depth >= DEEPEST) {
                return 0;
            }
            int number = OWN[at * ACTS + act];
            begin(number);
            return run(number, at, x, depth + 1);
        }

        private void begin(int number) {
            if (ran < TRACE) {
                begun[ran] = number;
            }
            ran++;
        }

        private int run(int number, int kind, int x, int depth) {
            switch (number) {
                case 1:
                    return x + self;
                case 2:
                    return own(GROWS, x, depth) - own(TURNS, 1, depth);
                case 10:
                    return own(POINTS, x, depth) * 2;
                case 11:
                    return x ^ self;
                case 20:
                    return above(kind, POINTS, x, depth) + 3;
                case 30:
                    return -above(kind, GROWS, x, depth);
                case 40:
                    return above(kind, TURNS, x, depth) * 3;
                case 41:
                    return above(kind, GROWS, x + 1, depth);
                case 50:
                    return above(kind, TURNS, x, depth) - own(POINTS, 2, depth);
                case 60:
                    return above(kind, READS, x, depth) ^ 5;
                case 70:
                    return above(kind, POINTS, x, depth) * 2;
                case 80:
                    return above(kind, GROWS, x, depth) + own(TURNS, 2, depth);
                case 81:
                    return above(kind, READS, x, depth) - 1;
                default:
                    return 0;
            }
        }
    }

    /** A SHELF: it holds nothing, a HEART, or a ROW, whose elements stand as longs whatever its sort. */
    private static final class Shelf {
        private static final int NONE = -1;

        int heart = NONE;
        int sort = NONE;
        int size;
        final long[] values = new long[ELEMENTS];

        boolean isEmpty() {
            return heart == NONE && sort == NONE;
        }

        boolean isRow() {
            return sort != NONE;
        }

        boolean isRowOf(int wanted) {
            return isRow() && sort == wanted;
        }

        void becomeEmpty() {
            heart = NONE;
            sort = NONE;
            size = 0;
        }

        void becomeHeart(int body) {
            becomeEmpty();
            heart = body;
        }

        void becomeRow(int itsSort, int n) {
            becomeEmpty();
            sort = itsSort;
            size = Math.max(0, Math.min(n, ELEMENTS));
            Arrays.fill(values, 0L);
        }

        /** Whether there are n places from i on. */
        boolean hasPlaces(int i, int n) {
            return i >= 0 && n >= 0 && i <= size && n <= size - i;
        }

        /** 0, or why there is no element i. */
        int refusalAt(int i) {
            if (isEmpty()) {
                return NOTHING_THERE;
            }
            if (!isRow()) {
                return OTHER_KIND;
            }
            return within(i, 0, size - 1) ? 0 : NO_PLACE;
        }

        long lowestBits(long v) {
            switch (sort) {
                case BYTES:
                    return (byte) v;
                case SHORTS:
                    return (short) v;
                case INTS:
                    return (int) v;
                case BOOLEANS:
                    return v != 0 ? 1 : 0;
                default:
                    return v;
            }
        }
    }
}
