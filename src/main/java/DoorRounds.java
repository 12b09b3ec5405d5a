import java.util.Arrays;

/**
 * Shops that move round the doors of a square every Monday.
 * Everything that is needed is made with the object and used again, so that no call makes a new one.
 */
public final class DoorRounds {
    public static final int BAD = -1, FULL = -2, FINDING = -3, STATE = -4, SPENT = -6, NONE = -9;

    private static final int NOTHING = 1, BEYOND = 2, UNLIKE = 3, NOUGHT = 4, SIZE = 5;
    private static final int FIXED = 1, SHY = 2, SLEEPER = 3, TURNER = 4, DREAMER = 5;
    private static final int BLANK = 32, PLUS = 43, MINUS = 45, COLON = 58, LETTER_D = 100;
    private static final int FIGURE_0 = 48, FIGURE_9 = 57;
    /** The letters of the KINDS, each at its KIND's number. */
    private static final int[] LETTERS = {115, 102, 121, 110, 111, 112};

    private static final int MISSING = -1;
    private static final int ROWS = 6, TEXTS = 4, KEPT = 3;
    private static final int MOST_PLACES = 40, MOST_BYTES = 100;
    private static final int MOST_SHOPS = 7, MOST_SHUT = 3, MOST_NOTES = 12;
    private static final int FEWEST_DOORS = 10, MOST_DOORS = 30;
    private static final int LONGEST_GO = 400, LAST_WEEK = 100000, HORIZON = 600;
    private static final int LONGEST_PLAIN = 1000000000;
    private static final int LONGEST_LOOK = 60, LONGEST_ERRANDS = 30, LAST_NOTED_WEEK = 99;
    private static final int MOST_STEP = 9, LEAST_K = 2, MOST_K = 9, MOST_PASSERS = 99;

    private final Strip[] rows = new Strip[ROWS];
    private final Strip[] texts = new Strip[TEXTS];
    private final Strip noStrip = new Strip(0);
    private final Standing now = new Standing();
    private final Standing[] kept = new Standing[KEPT];
    private final Standing ahead = new Standing();
    private final Standing mended = new Standing();
    private final Diary diary = new Diary();
    private final Errands trips = new Errands();
    private final int[] findingCounts = new int[SIZE + 1];
    private Plan plan = new Plan();
    private Plan draft = new Plan();
    private int asked = 0;
    private long upper = 0;
    private long lower = 1;
    private int finding = 0;

    public DoorRounds() {
        for (int r = 0; r < ROWS; r++) {
            rows[r] = new Strip(MOST_PLACES);
        }
        for (int t = 0; t < TEXTS; t++) {
            texts[t] = new Strip(MOST_BYTES);
        }
        for (int k = 0; k < KEPT; k++) {
            kept[k] = new Standing();
            kept[k].week = MISSING;
        }
    }

    // ---- 1 rows, texts, squares

    public int row(int r, int n) {
        if (!isRow(r) || n > MOST_PLACES) {
            return BAD;
        }
        if (n < 0) {
            return found(SIZE);
        }
        rowOf(r).renew(n, 0);
        return n;
    }

    public int lay(int r, int i, int v) {
        if (!isRow(r)) {
            return BAD;
        }
        Strip row = rowOf(r);
        int refused = placeFinding(row, i);
        if (refused != 0) {
            return found(refused);
        }
        int was = row.get(i);
        row.set(i, v);
        return tell(was, 1);
    }

    public int at(int r, int i) {
        if (!isRow(r)) {
            return BAD;
        }
        Strip row = rowOf(r);
        int refused = placeFinding(row, i);
        return refused != 0 ? found(refused) : tell(row.get(i), 1);
    }

    public int tear(int r) {
        if (!isRow(r)) {
            return BAD;
        }
        Strip row = rowOf(r);
        if (!row.isThere()) {
            return found(NOTHING);
        }
        row.size = MISSING;
        return 1;
    }

    public int copy(int r, int i, int to, int j, int n) {
        if (!isRow(r) || !isRow(to)) {
            return BAD;
        }
        if (n < 0) {
            return found(SIZE);
        }
        Strip source = rowOf(r);
        Strip target = rowOf(to);
        if (!source.isThere() || !target.isThere()) {
            return found(NOTHING);
        }
        if (!source.holds(i, n) || !target.holds(j, n)) {
            return found(BEYOND);
        }
        System.arraycopy(source.places, i, target.places, j, n);
        return 1;
    }

    public int mean(int r) {
        if (!isRow(r)) {
            return BAD;
        }
        Strip row = rowOf(r);
        if (!row.isThere()) {
            return found(NOTHING);
        }
        int n = row.size;
        if (n <= 0) {
            return found(NOUGHT);
        }
        return tell((int) (row.sum() / n), 1);
    }

    public int text(int t, int n) {
        if (!isText(t) || n > MOST_BYTES) {
            return BAD;
        }
        if (n < 0) {
            return found(SIZE);
        }
        textOf(t).renew(n, BLANK);
        return n;
    }

    public int put(int t, int i, int v) {
        if (!isText(t)) {
            return BAD;
        }
        Strip text = textOf(t);
        int refused = placeFinding(text, i);
        if (refused != 0) {
            return found(refused);
        }
        int was = text.get(i);
        text.set(i, (byte) v);
        return was + 1000;
    }

    public int fault(int t) {
        if (!isText(t)) {
            return BAD;
        }
        Strip text = textOf(t);
        return text.isThere() ? draft.read(text) : found(NOTHING);
    }

    public int square(int t) {
        if (!isText(t)) {
            return BAD;
        }
        Strip text = textOf(t);
        if (!text.isThere()) {
            return found(NOTHING);
        }
        if (draft.read(text) != NONE) {
            return STATE;
        }
        Plan old = plan;
        plan = draft;
        draft = old;
        plan.rank();
        now.begin(plan);
        diary.size = 0;
        for (int k = 0; k < KEPT; k++) {
            keptOf(k).week = MISSING;
        }
        return plan.size;
    }

    public int about(int s, int what) {
        if (!plan.hasShop(s) || what < 0 || what > 5) {
            return BAD;
        }
        return tell(trait(s, what), 1);
    }

    public int mark(int s, int kind) {
        if (!plan.hasShop(s) || kind < FIXED || kind > DREAMER) {
            return BAD;
        }
        Shop shop = plan.shopOf(s);
        if (!shop.isOf(kind)) {
            return found(UNLIKE);
        }
        switch (kind) {
            case FIXED:
                return neighbours(s);
            case SHY:
                return rivals(s);
            case SLEEPER:
                return shop.weeksToSleep(now.week);
            case TURNER:
                return shop.weeksToTurn(now.week);
            default:
                return (int) shop.way(now.week, shop.k) + 1000;
        }
    }

    public int shut(int d) {
        if (!plan.hasDoor(d)) {
            return BAD;
        }
        if (now.isShut(d)) {
            return STATE;
        }
        if (now.shutCount() >= MOST_SHUT) {
            return FULL;
        }
        now.shut |= 1 << d;
        return now.shutCount();
    }

    public int open(int d) {
        if (!plan.hasDoor(d)) {
            return BAD;
        }
        if (!now.isShut(d)) {
            return STATE;
        }
        now.shut &= ~(1 << d);
        return now.shutCount();
    }

    // ---- 2 weeks

    public int go(int n) {
        if (n < 0 || n > LONGEST_GO) {
            return BAD;
        }
        if (!plan.isThere()) {
            return STATE;
        }
        if (now.week + n > LAST_WEEK) {
            return SPENT;
        }
        now.pass(plan, n);
        return now.week;
    }

    public int doors(int r) {
        if (!isRow(r)) {
            return BAD;
        }
        Strip row = rowOf(r);
        row.renew(plan.size, 0);
        for (int s = 0; s < plan.size; s++) {
            row.set(s, now.doorOf(s));
        }
        return plan.size;
    }

    public int who(int d) {
        if (!plan.hasDoor(d)) {
            return BAD;
        }
        for (int s = 0; s < plan.size; s++) {
            if (now.doorOf(s) == d) {
                return s;
            }
        }
        return NONE;
    }

    public int wants(int s) {
        if (!plan.hasShop(s)) {
            return BAD;
        }
        ahead.become(now);
        ahead.pass(plan, 1);
        return tell(ahead.doorOf(s), now.wanted(plan, s));
    }

    public int where(int s, int n) {
        if (!plan.hasShop(s) || n < 0 || n > LONGEST_GO) {
            return BAD;
        }
        ahead.become(now);
        ahead.pass(plan, n);
        return ahead.doorOf(s);
    }

    public int plainly(int s, int n) {
        if (!plan.hasShop(s) || n < 0 || n > LONGEST_PLAIN) {
            return BAD;
        }
        return plan.wrapped(now.doorOf(s) + plan.shopOf(s).way(now.week, n));
    }

    public int again() {
        if (!plan.isThere()) {
            return STATE;
        }
        ahead.become(now);
        for (int w = 1; w <= HORIZON; w++) {
            ahead.pass(plan, 1);
            if (ahead.differing(now, plan.size) == 0) {
                return w;
            }
        }
        return NONE;
    }

    public int keep(int k) {
        if (!isKeptPlace(k)) {
            return BAD;
        }
        if (!plan.isThere()) {
            return STATE;
        }
        keptOf(k).become(now);
        return now.week;
    }

    public int on(int k) {
        if (!isKeptPlace(k)) {
            return BAD;
        }
        Standing place = keptOf(k);
        if (place.week == MISSING) {
            return found(NOTHING);
        }
        now.become(place);
        return now.week;
    }

    // ---- 3 when, by remainders

    public int beside(int s, int q) {
        if (!areTwo(s, q)) {
            return BAD;
        }
        ahead.become(now);
        for (int w = 0; w <= HORIZON; w++) {
            if (plan.walking(ahead.doorOf(s), ahead.doorOf(q)) == 1) {
                return w;
            }
            ahead.pass(plan, 1);
        }
        return NONE;
    }

    public int comes(int s, int d) {
        if (!plan.hasShop(s) || !plan.hasDoor(d)) {
            return BAD;
        }
        ahead.become(now);
        for (int w = 0; w <= HORIZON; w++) {
            if (ahead.doorOf(s) == d) {
                return w;
            }
            ahead.pass(plan, 1);
        }
        return NONE;
    }

    public int meets(int s, int q, int x) {
        if (!areTwo(s, q) || !plan.hasDoor(x)) {
            return BAD;
        }
        int gap = now.doorOf(q) - now.doorOf(s);
        int gain = plan.shopOf(q).step - plan.shopOf(s).step;
        int common = plan.commonWith(gain);
        for (int w = 0; w < plan.doors; w++) {
            if (common > 0 && plan.wrapped(gap + (long) w * gain) == x) {
                return tell(plan.doors / common, w);
            }
        }
        return NONE;
    }

    public int never(int s, int q, int x) {
        if (!areTwo(s, q) || !plan.hasDoor(x)) {
            return BAD;
        }
        int gap = now.doorOf(q) - now.doorOf(s);
        int gain = plan.shopOf(q).step - plan.shopOf(s).step;
        return tell(plan.commonWith(gain), plan.canMeet(x - gap, gain) ? 0 : 1);
    }

    // ---- 4 errands

    public int walk(int d, int e) {
        if (!plan.hasDoor(d) || !plan.hasDoor(e)) {
            return BAD;
        }
        return plan.walking(d, e);
    }

    public int round(int d, int set) {
        if (!plan.hasDoor(d) || !plan.hasSet(set)) {
            return BAD;
        }
        return now.roundOf(plan, d, set);
    }

    public int best(int d, int set, int n) {
        if (!plan.hasDoor(d) || !plan.hasSet(set) || n < 0 || n > LONGEST_LOOK) {
            return BAD;
        }
        int week = 0;
        // No ROUND is longer than all DOORS.
        int least = plan.doors + 1;
        ahead.become(now);
        for (int w = 0; w <= n; w++) {
            int length = ahead.roundOf(plan, d, set);
            if (length < least) {
                least = length;
                week = w;
            }
            ahead.pass(plan, 1);
        }
        return tell(least, week);
    }

    public int errands(int d, int set, int n, int r) {
        if (!plan.hasDoor(d) || !plan.hasSet(set) || n < 0 || n > LONGEST_ERRANDS || !isRow(r)) {
            return BAD;
        }
        trips.begin();
        ahead.become(now);
        for (int w = 0; w <= n; w++) {
            trips.look(plan, ahead, d, set, w);
            ahead.pass(plan, 1);
        }
        trips.share(set);
        Strip row = rowOf(r);
        row.renew(Integer.bitCount(set), 0);
        int place = 0;
        for (int s = 0; s < plan.size; s++) {
            if (isIn(set, s)) {
                row.set(place, trips.weekFor(set, s));
                place++;
            }
        }
        return trips.walkingFor(set);
    }

    public int agree(int d, int e, int n) {
        if (!plan.hasDoor(d) || !plan.hasDoor(e) || n < 0 || n > LONGEST_LOOK) {
            return BAD;
        }
        if (plan.size == 0) {
            return found(NOUGHT);
        }
        int choice = 0;
        // Nobody walks farther than half about.
        int least = plan.doors + 1;
        ahead.become(now);
        for (int w = 0; w <= n; w++) {
            for (int s = 0; s < plan.size; s++) {
                int door = ahead.doorOf(s);
                int both = plan.walking(d, door) + plan.walking(e, door);
                if (both < least) {
                    least = both;
                    choice = 10 * w + s;
                }
            }
            ahead.pass(plan, 1);
        }
        return tell(least, choice);
    }

    // ---- 5 new shops, diaries, rents, mending

    public int joins(int d, int step) {
        if (!plan.hasDoor(d) || step < -MOST_STEP || step > MOST_STEP) {
            return BAD;
        }
        return metBy(d, step);
    }

    public int quiet() {
        if (!plan.isThere()) {
            return STATE;
        }
        int first = NONE;
        int pairs = 0;
        for (int d = 0; d < plan.doors; d++) {
            for (int step = -MOST_STEP; step <= MOST_STEP; step++) {
                if (metBy(d, step) == 0) {
                    first = pairs == 0 ? pairCode(d, step) : first;
                    pairs++;
                }
            }
        }
        return pairs == 0 ? NONE : tell(pairs, first);
    }

    public int busy() {
        if (!plan.isThere()) {
            return STATE;
        }
        int first = NONE;
        int most = -1;
        for (int d = 0; d < plan.doors; d++) {
            for (int step = -MOST_STEP; step <= MOST_STEP; step++) {
                int met = Integer.bitCount(metBy(d, step));
                if (met > most) {
                    most = met;
                    first = pairCode(d, step);
                }
            }
        }
        return tell(most, first);
    }

    public int note(int week, int s, int d) {
        if (week < 0 || week > LAST_NOTED_WEEK || !plan.hasShop(s) || !plan.hasDoor(d)) {
            return BAD;
        }
        return diary.write(week, s, d) ? diary.size - 1 : FULL;
    }

    public int back(int n) {
        if (n < 0 || n > diary.size) {
            return BAD;
        }
        int went = diary.size - n;
        diary.size = n;
        return went;
    }

    public int steps(int s) {
        if (!plan.hasShop(s)) {
            return BAD;
        }
        Shop shop = plan.shopOf(s);
        int fitting = 0;
        for (int step = -MOST_STEP; step <= MOST_STEP; step++) {
            if (diary.fits(plan, s, shop.kind, shop.k, step)) {
                fitting |= 1 << (step + MOST_STEP);
            }
        }
        return tell(Integer.bitCount(fitting), fitting);
    }

    public int kinds(int s) {
        if (!plan.hasShop(s)) {
            return BAD;
        }
        int step = plan.shopOf(s).step;
        boolean fitsShop = diary.fits(plan, s, 0, 0, step);
        int first = fitsShop ? 0 : NONE;
        int fitting = fitsShop ? 1 : 0;
        for (int kind = SLEEPER; kind <= DREAMER; kind++) {
            for (int k = LEAST_K; k <= MOST_K; k++) {
                if (diary.fits(plan, s, kind, k, step)) {
                    first = fitting == 0 ? 10 * kind + k : first;
                    fitting++;
                }
            }
        }
        return fitting == 0 ? NONE : tell(fitting, first);
    }

    public int rent(int r, int s, int n) {
        if (!isRow(r) || !plan.hasShop(s) || !isLook(n)) {
            return BAD;
        }
        Strip row = rowOf(r);
        int refused = passersFinding(row);
        return refused != 0 ? found(refused) : rentOf(row, s, n);
    }

    public int dearest(int r, int n) {
        if (!isRow(r) || !isLook(n)) {
            return BAD;
        }
        Strip row = rowOf(r);
        int refused = passersFinding(row);
        if (refused != 0) {
            return found(refused);
        }
        int first = 0;
        int most = 0;
        int all = 0;
        for (int s = 0; s < plan.size; s++) {
            int rent = rentOf(row, s, n);
            all += rent;
            if (rent > most) {
                most = rent;
                first = s;
            }
        }
        if (all == 0) {
            return found(NOUGHT);
        }
        tellFraction(most, all);
        return first;
    }

    public int mends(int d, int n) {
        if (!plan.hasDoor(d) || !isLook(n)) {
            return BAD;
        }
        if (now.isShut(d)) {
            return STATE;
        }
        if (now.shutCount() >= MOST_SHUT) {
            return FULL;
        }
        int first = NONE;
        int changed = 0;
        ahead.become(now);
        mended.become(now);
        mended.shut |= 1 << d;
        for (int w = 1; w <= n; w++) {
            ahead.pass(plan, 1);
            mended.pass(plan, 1);
            changed = mended.differing(ahead, plan.size);
            first = first == NONE && changed > 0 ? w : first;
        }
        return tell(first, changed);
    }

    public int worst(int n) {
        if (!isLook(n)) {
            return BAD;
        }
        if (!plan.isThere()) {
            return STATE;
        }
        if (now.shutCount() >= MOST_SHUT) {
            return FULL;
        }
        int door = NONE;
        int most = -1;
        ahead.become(now);
        ahead.pass(plan, n);
        for (int d = 0; d < plan.doors; d++) {
            if (!now.isShut(d)) {
                mended.become(now);
                mended.shut |= 1 << d;
                mended.pass(plan, n);
                int changed = mended.differing(ahead, plan.size);
                if (changed > most) {
                    most = changed;
                    door = d;
                }
            }
        }
        return tell(most, door);
    }

    // ---- 6 images, what is told

    public int image(int r) {
        if (!isRow(r)) {
            return BAD;
        }
        if (!plan.isThere()) {
            return STATE;
        }
        Strip row = rowOf(r);
        row.renew(plan.size + 2, 0);
        row.set(0, now.week);
        row.set(1, now.shut);
        for (int s = 0; s < plan.size; s++) {
            row.set(s + 2, now.doorOf(s));
        }
        return plan.size + 2;
    }

    public int gone(int r) {
        if (!isRow(r)) {
            return BAD;
        }
        if (!plan.isThere()) {
            return STATE;
        }
        Strip row = rowOf(r);
        int refused = imageFinding(row);
        if (refused != 0) {
            return found(refused);
        }
        now.week = row.get(0);
        now.shut = row.get(1);
        for (int s = 0; s < plan.size; s++) {
            now.setDoor(s, row.get(s + 2));
        }
        return now.week;
    }

    public int asked() {
        return asked;
    }

    public long upper() {
        return upper;
    }

    public long lower() {
        return lower;
    }

    public int count(int what) {
        return what < 0 || what > 7 ? BAD : countOf(what);
    }

    public int finding() {
        return finding;
    }

    public int findings(int f) {
        if (f < NOTHING || f > SIZE) {
            return BAD;
        }
        return findingCounts[f];
    }

    public long digest() {
        long h = 17;
        for (int what = 0; what <= 7; what++) {
            h = 31 * h + countOf(what);
        }
        for (int s = 0; s < plan.size; s++) {
            for (int what = 0; what <= 5; what++) {
                h = 31 * h + trait(s, what);
            }
        }
        h = 31 * h + now.shut;
        h = diary.mixedInto(h);
        for (int k = 0; k < KEPT; k++) {
            h = 31 * h + keptOf(k).week;
        }
        for (int r = 0; r < ROWS; r++) {
            h = rowOf(r).mixedInto(h);
        }
        for (int t = 0; t < TEXTS; t++) {
            h = textOf(t).mixedInto(h);
        }
        return h;
    }

    // ---- what the calls share

    private int found(int f) {
        if (f >= NOTHING && f <= SIZE) {
            finding = f;
            findingCounts[f]++;
        }
        return FINDING;
    }

    private int tell(int toBeAsked, int answer) {
        asked = toBeAsked;
        return answer;
    }

    private void tellFraction(long above, long below) {
        long common = greatestCommon(above, below);
        if (common > 0) {
            upper = above / common;
            lower = below / common;
        }
    }

    private static boolean isRow(int r) {
        return r >= 0 && r < ROWS;
    }

    private static boolean isText(int t) {
        return t >= 0 && t < TEXTS;
    }

    private static boolean isKeptPlace(int k) {
        return k >= 0 && k < KEPT;
    }

    private static boolean isLook(int n) {
        return n >= 1 && n <= LONGEST_LOOK;
    }

    private boolean areTwo(int s, int q) {
        return plan.hasShop(s) && plan.hasShop(q) && s != q;
    }

    private Strip rowOf(int r) {
        return isRow(r) ? rows[r] : noStrip;
    }

    private Strip textOf(int t) {
        return isText(t) ? texts[t] : noStrip;
    }

    private Standing keptOf(int k) {
        return isKeptPlace(k) ? kept[k] : ahead;
    }

    private static int placeFinding(Strip strip, int i) {
        if (!strip.isThere()) {
            return NOTHING;
        }
        return strip.has(i) ? 0 : BEYOND;
    }

    /** What speaks against a ROW that should tell who passes each DOOR; 0: nothing. */
    private int passersFinding(Strip row) {
        if (!row.isThere()) {
            return NOTHING;
        }
        if (row.size != plan.doors) {
            return SIZE;
        }
        for (int d = 0; d < row.size; d++) {
            if (row.get(d) < 0 || row.get(d) > MOST_PASSERS) {
                return UNLIKE;
            }
        }
        return 0;
    }

    /** What speaks against a ROW that should be an image; 0: nothing. */
    private int imageFinding(Strip row) {
        if (!row.isThere()) {
            return NOTHING;
        }
        if (row.size != plan.size + 2) {
            return SIZE;
        }
        int week = row.get(0);
        int shut = row.get(1);
        if (week < 0 || week > LAST_WEEK || !plan.hasDoorSet(shut) || Integer.bitCount(shut) > MOST_SHUT) {
            return UNLIKE;
        }
        int taken = 0;
        for (int s = 0; s < plan.size; s++) {
            int door = row.get(s + 2);
            if (!plan.hasDoor(door) || isIn(taken, door)) {
                return UNLIKE;
            }
            taken |= 1 << door;
        }
        return 0;
    }

    private int trait(int s, int what) {
        Shop shop = plan.shopOf(s);
        switch (what) {
            case 0:
                return shop.kind;
            case 1:
                return now.doorOf(s);
            case 2:
                return shop.step;
            case 3:
                return shop.age;
            case 4:
                return shop.k;
            default:
                return shop.firstDoor;
        }
    }

    private int countOf(int what) {
        switch (what) {
            case 0:
                return plan.doors;
            case 1:
                return plan.size;
            case 2:
                return now.week;
            case 3:
                return plan.sleepers();
            case 4:
                return now.shutCount();
            case 5:
                return diary.size;
            case 6:
                return countThere(rows);
            default:
                return countThere(texts);
        }
    }

    private static int countThere(Strip[] strips) {
        int there = 0;
        for (int i = 0; i < strips.length; i++) {
            if (strips[i] != null && strips[i].isThere()) {
                there++;
            }
        }
        return there;
    }

    private int neighbours(int s) {
        int near = 0;
        for (int q = 0; q < plan.size; q++) {
            if (plan.walking(now.doorOf(s), now.doorOf(q)) == 1) {
                near++;
            }
        }
        return near;
    }

    private int rivals(int s) {
        int same = 0;
        for (int q = 0; q < plan.size; q++) {
            if (q != s && now.wanted(plan, q) == now.wanted(plan, s)) {
                same++;
            }
        }
        return same;
    }

    /** The SHOPS with which a new one at a DOOR, of a STEP, would have one DOOR ever. */
    private int metBy(int d, int step) {
        int met = 0;
        for (int s = 0; s < plan.size; s++) {
            if (plan.canMeet(now.doorOf(s) - d, step - plan.shopOf(s).step)) {
                met |= 1 << s;
            }
        }
        return met;
    }

    private static int pairCode(int d, int step) {
        return 100 * d + step + MOST_STEP;
    }

    private int rentOf(Strip row, int s, int n) {
        int rent = 0;
        ahead.become(now);
        for (int w = 0; w < n; w++) {
            rent += row.get(ahead.doorOf(s));
            ahead.pass(plan, 1);
        }
        return rent;
    }

    private static boolean isIn(int set, int i) {
        return i >= 0 && i < 31 && (set >> i & 1) == 1;
    }

    private static long greatestCommon(long a, long b) {
        long x = Math.abs(a);
        long y = Math.abs(b);
        // Euclid's remainders at least halve every second time, so 128 rounds end for all longs.
        for (int i = 0; i < 128 && y != 0; i++) {
            long rest = x % y;
            x = y;
            y = rest;
        }
        return x;
    }

    /** A ROW or a TEXT; its places are made once and stay when it is missing. */
    private static final class Strip {
        final int[] places;
        int size = MISSING;

        Strip(int most) {
            places = new int[Math.max(0, most)];
        }

        boolean isThere() {
            return size >= 0;
        }

        boolean has(int i) {
            return i >= 0 && i < size && i < places.length;
        }

        boolean holds(int from, int n) {
            return from >= 0 && n >= 0 && from <= size - n;
        }

        int get(int i) {
            return has(i) ? places[i] : 0;
        }

        void set(int i, int v) {
            if (has(i)) {
                places[i] = v;
            }
        }

        void renew(int n, int v) {
            size = Math.min(n, places.length);
            Arrays.fill(places, v);
        }

        long sum() {
            long all = 0;
            for (int i = 0; i < size; i++) {
                all += get(i);
            }
            return all;
        }

        long mixedInto(long digest) {
            long h = 31 * digest + size;
            for (int i = 0; i < size; i++) {
                h = 31 * h + get(i);
            }
            return h;
        }
    }

    /** A SHOP as the TEXT tells it; the DOOR that it has in a WEEK is told by a Standing. */
    private static final class Shop {
        int kind = 0;
        int firstDoor = 0;
        int step = 0;
        int age = 0;
        int k = 0;

        boolean isOf(int other) {
            return other == kind || other == SLEEPER && kind == DREAMER;
        }

        int goingIn(int week) {
            return going(kind, k, step, week);
        }

        long way(int week, int n) {
            return wayOf(kind, k, step, week, n);
        }

        int weeksToSleep(int week) {
            return k < LEAST_K ? 0 : k - 1 - week % k;
        }

        int weeksToTurn(int week) {
            return k < LEAST_K ? 0 : k - week % k;
        }

        static int going(int kind, int k, int step, int week) {
            if (kind == FIXED) {
                return 0;
            }
            if (k < LEAST_K) {
                return step;
            }
            boolean lastOfK = week % k == k - 1;
            switch (kind) {
                case SLEEPER:
                    return lastOfK ? 0 : step;
                case TURNER:
                    return week / k % 2 == 0 ? step : -step;
                case DREAMER:
                    return lastOfK ? -step : step;
                default:
                    return step;
            }
        }

        /** How far it goes PLAINLY in n WEEKS: every GOING comes again after 2 k WEEKS. */
        static long wayOf(int kind, int k, int step, int week, int n) {
            int period = k < LEAST_K ? 1 : 2 * k;
            int rest = n % period;
            long wholePeriod = 0;
            long restOfWay = 0;
            for (int i = 0; i < period; i++) {
                int going = going(kind, k, step, week + i);
                wholePeriod += going;
                restOfWay += i < rest ? going : 0;
            }
            return n / period * wholePeriod + restOfWay;
        }
    }

    /** A SQUARE as a TEXT tells it: its DOORS (0: there is none) and SHOPS, and who goes ahead of whom. */
    private static final class Plan {
        int doors = 0;
        int size = 0;
        final Shop[] shops = new Shop[MOST_SHOPS];
        final Shop noShop = new Shop();
        final int[] order = new int[MOST_SHOPS];
        final Reader reader = new Reader();

        Plan() {
            for (int s = 0; s < MOST_SHOPS; s++) {
                shops[s] = new Shop();
            }
        }

        boolean isThere() {
            return doors > 0;
        }

        boolean hasDoor(int d) {
            return d >= 0 && d < doors;
        }

        boolean hasDoorSet(int set) {
            return set >= 0 && set >> doors == 0;
        }

        boolean hasShop(int s) {
            return s >= 0 && s < size && s < MOST_SHOPS;
        }

        boolean hasSet(int set) {
            return set >= 0 && set >> size == 0;
        }

        Shop shopOf(int s) {
            return hasShop(s) ? shops[s] : noShop;
        }

        int sleepers() {
            int many = 0;
            for (int s = 0; s < size; s++) {
                many += shopOf(s).isOf(SLEEPER) ? 1 : 0;
            }
            return many;
        }

        int wrapped(long d) {
            return doors > 0 ? (int) Math.floorMod(d, (long) doors) : 0;
        }

        int walking(int d, int e) {
            int up = wrapped(e - d);
            return Math.min(up, doors - up);
        }

        int commonWith(int gain) {
            return (int) greatestCommon(doors, gain);
        }

        /** Whether a gap is ever made up by a gain a WEEK, round about. */
        boolean canMeet(int gap, int gain) {
            int common = commonWith(gain);
            return common > 0 && gap % common == 0;
        }

        boolean isFirstDoor(int d) {
            for (int s = 0; s < size; s++) {
                if (shopOf(s).firstDoor == d) {
                    return true;
                }
            }
            return false;
        }

        /** Reads a TEXT; what it answers is its FAULT, or NONE. */
        int read(Strip text) {
            doors = 0;
            size = 0;
            reader.begin(text);
            reader.skipBlanks();
            if (!reader.passes(LETTER_D) || !reader.readNumber(2, 2, FEWEST_DOORS, MOST_DOORS)) {
                return reader.place;
            }
            doors = reader.number;
            reader.skipBlanks();
            for (int s = 0; s < MOST_SHOPS && !reader.isAtEnd(); s++) {
                if (!readShop(shops[s])) {
                    return reader.place;
                }
                size = s + 1;
                reader.skipBlanks();
            }
            return reader.isAtEnd() ? NONE : reader.place;
        }

        private boolean readShop(Shop shop) {
            if (!reader.readKind()) {
                return false;
            }
            shop.kind = reader.number;
            if (!reader.readNumber(1, 2, 0, doors - 1) || isFirstDoor(reader.number)) {
                return false;
            }
            shop.firstDoor = reader.number;
            if (!reader.passes(COLON) || !reader.readStep()) {
                return false;
            }
            shop.step = reader.number;
            if (!reader.passes(COLON) || !reader.readNumber(1, 2, 1, 99)) {
                return false;
            }
            shop.age = reader.number;
            shop.k = 0;
            if (shop.kind >= SLEEPER) {
                if (!reader.passes(COLON) || !reader.readNumber(1, 1, LEAST_K, MOST_K)) {
                    return false;
                }
                shop.k = reader.number;
            }
            return true;
        }

        /** Each SHOP goes in behind those that it is not ahead of, so of alike ones the least number is first. */
        void rank() {
            for (int s = 0; s < size && s < MOST_SHOPS; s++) {
                int place = s;
                for (; place > 0 && isAhead(s, order[place - 1]); place--) {
                    order[place] = order[place - 1];
                }
                order[place] = s;
            }
        }

        private boolean isAhead(int s, int q) {
            Shop one = shopOf(s);
            Shop other = shopOf(q);
            boolean isShy = one.kind == SHY;
            if (isShy != (other.kind == SHY)) {
                return !isShy;
            }
            return one.age > other.age;
        }
    }

    /** Goes through a TEXT; wherever it can't go on, its place is the FAULT. */
    private static final class Reader {
        Strip text = new Strip(0);
        int place = 0;
        int number = 0;

        void begin(Strip from) {
            text = from;
            place = 0;
        }

        boolean isAtEnd() {
            return place >= text.size;
        }

        void skipBlanks() {
            while (place < text.size && text.get(place) == BLANK) {
                place++;
            }
        }

        boolean passes(int sign) {
            if (isAtEnd() || text.get(place) != sign) {
                return false;
            }
            place++;
            return true;
        }

        private static boolean isFigure(int sign) {
            return sign >= FIGURE_0 && sign <= FIGURE_9;
        }

        boolean readNumber(int fewestFigures, int mostFigures, int least, int most) {
            int figures = 0;
            number = 0;
            // Behind the end get() answers 0, which is no figure.
            for (; figures < mostFigures && isFigure(text.get(place)); figures++) {
                number = 10 * number + text.get(place) - FIGURE_0;
                place++;
            }
            return figures >= fewestFigures && number >= least && number <= most;
        }

        boolean readKind() {
            for (int kind = 0; kind < LETTERS.length; kind++) {
                if (passes(LETTERS[kind])) {
                    number = kind;
                    return true;
                }
            }
            return false;
        }

        boolean readStep() {
            boolean isDown = passes(MINUS);
            if (!isDown && !passes(PLUS) || !readNumber(1, 1, 0, MOST_STEP)) {
                return false;
            }
            number = isDown ? -number : number;
            return true;
        }
    }

    /** How all stands in a WEEK: who has which DOOR, and what is SHUT. */
    private static final class Standing {
        int week = 0;
        int shut = 0;
        final int[] doors = new int[MOST_SHOPS];

        void begin(Plan plan) {
            week = 0;
            shut = 0;
            for (int s = 0; s < plan.size; s++) {
                setDoor(s, plan.shopOf(s).firstDoor);
            }
        }

        void become(Standing other) {
            week = other.week;
            shut = other.shut;
            System.arraycopy(other.doors, 0, doors, 0, MOST_SHOPS);
        }

        int doorOf(int s) {
            return s >= 0 && s < MOST_SHOPS ? doors[s] : 0;
        }

        void setDoor(int s, int d) {
            if (s >= 0 && s < MOST_SHOPS) {
                doors[s] = d;
            }
        }

        boolean isShut(int d) {
            return isIn(shut, d);
        }

        int shutCount() {
            return Integer.bitCount(shut);
        }

        int wanted(Plan plan, int s) {
            return plan.wrapped(doorOf(s) + plan.shopOf(s).goingIn(week));
        }

        void pass(Plan plan, int n) {
            for (int w = 0; w < n; w++) {
                passOne(plan);
            }
        }

        private void passOne(Plan plan) {
            int taken = shut;
            for (int i = 0; i < plan.size && i < MOST_SHOPS; i++) {
                int s = plan.order[i];
                int going = plan.shopOf(s).goingIn(week);
                int onward = going < 0 ? -1 : 1;
                int door = plan.wrapped(doorOf(s) + going);
                for (int tries = 0; tries < plan.doors && isIn(taken, door); tries++) {
                    door = plan.wrapped(door + onward);
                }
                setDoor(s, door);
                taken |= 1 << door;
            }
            week++;
        }

        int differing(Standing other, int shops) {
            int many = 0;
            for (int s = 0; s < shops; s++) {
                many += doorOf(s) != other.doorOf(s) ? 1 : 0;
            }
            return many;
        }

        /**
         * A ROUND leaves out one gap between neighbouring DOORS of it and goes the rest there and back,
         * or goes about once: the widest gap is the one to leave out.
         */
        int roundOf(Plan plan, int home, int set) {
            int visited = 0;
            for (int s = 0; s < plan.size; s++) {
                if (isIn(set, s)) {
                    visited |= 1 << plan.wrapped(doorOf(s) - home);
                }
            }
            int widest = 0;
            int last = 0;
            for (int up = 1; up <= plan.doors; up++) {
                if (up == plan.doors || isIn(visited, up)) {
                    widest = Math.max(widest, up - last);
                    last = up;
                }
            }
            return Math.min(plan.doors, 2 * (plan.doors - widest));
        }
    }

    /** The NOTES. */
    private static final class Diary {
        int size = 0;
        final int[] weeks = new int[MOST_NOTES];
        final int[] shops = new int[MOST_NOTES];
        final int[] doors = new int[MOST_NOTES];

        boolean write(int week, int s, int d) {
            if (size < 0 || size >= MOST_NOTES) {
                return false;
            }
            weeks[size] = week;
            shops[size] = s;
            doors[size] = d;
            size++;
            return true;
        }

        boolean fits(Plan plan, int s, int kind, int k, int step) {
            int first = plan.shopOf(s).firstDoor;
            for (int i = 0; i < size && i < MOST_NOTES; i++) {
                if (shops[i] == s
                        && plan.wrapped(first + Shop.wayOf(kind, k, step, 0, weeks[i])) != doors[i]) {
                    return false;
                }
            }
            return true;
        }

        long mixedInto(long digest) {
            long h = digest;
            for (int i = 0; i < size && i < MOST_NOTES; i++) {
                h = 31 * h + weeks[i];
                h = 31 * h + shops[i];
                h = 31 * h + doors[i];
            }
            return h;
        }
    }

    /**
     * The least WALKING for each set of SHOPS. A way to do it is one number: its WALKING above, and below it
     * each SHOP's WEEK in 5 bits, the least SHOP's topmost. So ways add up, and the least number is the least
     * WALKING and, of alike ones, the first WEEKS.
     */
    private static final class Errands {
        static final int SETS = 1 << MOST_SHOPS;
        static final int WEEK_BITS = 5;
        static final int ALL_WEEKS_BITS = WEEK_BITS * MOST_SHOPS;
        static final long NO_WAY = 1L << 60;

        /** The least way for each set, if all of it is gone to in one WEEK. */
        final long[] together = new long[SETS];
        /** The least way for each set, if it is shared among any WEEKS. */
        final long[] shared = new long[SETS];

        void begin() {
            Arrays.fill(together, NO_WAY);
            Arrays.fill(shared, NO_WAY);
            shared[0] = 0;
        }

        void look(Plan plan, Standing standing, int home, int set, int w) {
            for (int part = 1; part < SETS; part++) {
                if ((part & set) == part) {
                    long walking = standing.roundOf(plan, home, part);
                    together[part] = Math.min(together[part], (walking << ALL_WEEKS_BITS) + weeksCode(part, w));
                }
            }
        }

        private static long weeksCode(int part, int w) {
            long code = 0;
            for (int s = 0; s < MOST_SHOPS; s++) {
                if (isIn(part, s)) {
                    code += (long) w << shiftOf(s);
                }
            }
            return code;
        }

        private static int shiftOf(int s) {
            return WEEK_BITS * (MOST_SHOPS - 1 - s);
        }

        /**
         * Two parts may come to lie in one WEEK here: that is never told too short, since one ROUND for both
         * is no longer than two, and is among the ways too.
         */
        void share(int set) {
            for (int whole = 1; whole < SETS; whole++) {
                if ((whole & set) == whole) {
                    shared[whole] = leastOf(whole);
                }
            }
        }

        private long leastOf(int whole) {
            long least = NO_WAY;
            for (int part = 1; part <= whole && part < SETS; part++) {
                if ((part & whole) == part) {
                    least = Math.min(least, together[part] + shared[whole - part]);
                }
            }
            return least;
        }

        int walkingFor(int set) {
            return set >= 0 && set < SETS ? (int) (shared[set] >> ALL_WEEKS_BITS) : 0;
        }

        int weekFor(int set, int s) {
            return set >= 0 && set < SETS ? (int) (shared[set] >> shiftOf(s)) & (1 << WEEK_BITS) - 1 : 0;
        }
    }
}
