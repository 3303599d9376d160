import java.util.Arrays;

/** Nine heaps of sheets in a ring, and up to five walkers who take one of each; ../shared/DOC.md says what each call does. */
public final class NineHeaps {
    public static final int NONE = -1, BAD = -2, STATE = -3, FULL = -4;
    public static final long NO = -4611686018427387904L;

    private static final int NO_SUCH = -5, NO_HEAP = -6, NOT_SO = -7;
    private static final int NOTHING = -11, OUTSIDE = -12, OTHER_SORT = -13, BELOW_0 = -14;
    private static final int NOT_WORTH = -1000, FAULT = -100;

    private static final int HEAPS = 9, HIGHEST = 200, HIGH_FIRST = 50, MOST_STICK = 9;
    private static final int MOST_WANT = 200, WANT_FIRST = 20;
    private static final int WALKERS = 5, KINDS = 6, MOST_MORE = 9;
    private static final int TAPE = 160, TEXTS = 6, MOST_FEED = 5, MOST_OPEN = 5;
    private static final int ALL_SECONDS = 600, MOST_OFF = 40, ORDERS = 120;
    private static final int SHEETS = 4, MOST_CELLS = 40, SHORTS = 1, INTS = 2;
    private static final int MOST_SEED = 99999, MOST_SEEDS = 10;
    private static final int NEVER = 1000000;

    private static final int[] FIRST_LAW = {2, 1, 1};
    private static final int[] FIRST_LAW_STARTS = {0, 1, 2, 3};

    private final int[] high = new int[HEAPS];
    private final int[] stick = new int[HEAPS];
    private int want = WANT_FIRST;
    private final Walker[] walkers = new Walker[WALKERS];
    private int walkerCount;
    private final Law[] texts = new Law[TEXTS];
    private int textCount;
    private int law;
    private final Tape tape = new Tape();
    private final Sheet[] sheets = new Sheet[SHEETS];
    private final Going going = new Going();
    private final int[] order = new int[WALKERS];
    private final int[][] fewest = new int[WALKERS + 1][HEAPS + 1];
    private final int[] shares = new int[WALKERS];

    private final int[] imageHigh = new int[HEAPS];
    private final int[] imageStick = new int[HEAPS];
    private final int[] imageFrom = new int[WALKERS];
    private int imageWant;
    private int imageWalkers = NONE;
    private int imageLaw;

    public NineHeaps() {
        Arrays.fill(high, HIGH_FIRST);
        texts[0] = new Law(FIRST_LAW, FIRST_LAW_STARTS);
        textCount = 1;
        for (int s = 0; s < SHEETS; s++) {
            sheets[s] = new Sheet();
        }
    }

    // ---- heaps, the law

    public int count(int what) {
        switch (what) {
            case 0: return walkerCount;
            case 1: return want;
            case 2: return textCount;
            case 3: return law;
            case 4: return tape.size;
            default: return BAD;
        }
    }

    public int set(int what, int of, int v) {
        if (what < 0 || what > 2) {
            return NO_SUCH;
        }
        if (what == 2) {
            return changeWant(v);
        }
        if (noHeap(of)) {
            return NO_HEAP;
        }
        if (v < 0 || v > (what == 0 ? HIGHEST : MOST_STICK)) {
            return NOT_SO;
        }
        int[] row = what == 0 ? high : stick;
        int was = row[of];
        row[of] = v;
        return was;
    }

    private int changeWant(int v) {
        if (v < 1 || v > MOST_WANT) {
            return NOT_SO;
        }
        int was = want;
        want = v;
        return was;
    }

    public int heap(int h, int what) {
        if (noHeap(h)) {
            return NO_HEAP;
        }
        if (what < 0 || what > 1) {
            return NOT_SO;
        }
        return what == 0 ? high[h] : stick[h];
    }

    public int feed(int n, int a, int b, int c, int d, int e) {
        if (n < 1 || n > MOST_FEED || noByte(a) || noByte(b) || noByte(c) || noByte(d) || noByte(e)) {
            return BAD;
        }
        if (n > TAPE - tape.size) {
            return FULL;
        }
        tape.add(a);
        if (n > 1) {
            tape.add(b);
        }
        if (n > 2) {
            tape.add(c);
        }
        if (n > 3) {
            tape.add(d);
        }
        if (n > 4) {
            tape.add(e);
        }
        return tape.size;
    }

    public int text() {
        if (textCount < 0 || textCount >= TEXTS) {
            return FULL;
        }
        int fault = tape.read();
        tape.size = 0;
        if (fault != NONE) {
            return FAULT - fault;
        }
        texts[textCount] = tape.lastRead();
        textCount++;
        return textCount - 1;
    }

    public int force(int t) {
        if (t < 0 || t >= textCount) {
            return BAD;
        }
        int was = law;
        law = t;
        return was;
    }

    public int asks(int part, int heapLeft, int walkerDone) {
        int h = Math.floorDiv(heapLeft, 1000);
        int left = Math.floorMod(heapLeft, 1000);
        Walker one = walkerOf(Math.floorDiv(walkerDone, 1000));
        int done = Math.floorMod(walkerDone, 1000);
        Law now = textOf(law);
        if (part < 0 || part > 2 || noHeap(h) || left > HIGHEST || one == null || now == null) {
            return BAD;
        }
        return now.says(part, one, h, left, done, walkerCount);
    }

    // ---- walkers

    public int walker(int kind, int more, int h) {
        if (kind < 0 || kind >= KINDS || more < 0 || more > MOST_MORE || noHeap(h)) {
            return BAD;
        }
        if (walkerCount < 0 || walkerCount >= WALKERS) {
            return FULL;
        }
        walkers[walkerCount] = newWalker(kind, walkerCount, more, h);
        walkerCount++;
        return walkerCount - 1;
    }

    public int begin(int w, int h) {
        Walker one = walkerOf(w);
        if (one == null) {
            return NO_SUCH;
        }
        if (noHeap(h)) {
            return NOT_SO;
        }
        int was = one.from;
        one.from = h;
        return was;
    }

    public int told(int w, int what) {
        Walker one = walkerOf(w);
        if (one == null) {
            return NO_SUCH;
        }
        switch (what) {
            case 0: return one.kind();
            case 1: return one.more;
            case 2: return one.from;
            case 3: return one.waits() ? 1 : 0;
            default: return NOT_SO;
        }
    }

    // ---- second by second

    public int run(int seconds, int what) {
        if (noSeconds(seconds) || what < 0 || what > 4) {
            return BAD;
        }
        layPlain();
        going.pass(seconds);
        switch (what) {
            case 0: return going.programmes;
            case 1: return going.wrong;
            case 2: return going.lacking;
            case 3: return going.badness();
            default: return going.wantedIn;
        }
    }

    public int one(int w, int seconds, int what) {
        Walker one = walkerOf(w);
        if (one == null) {
            return NO_SUCH;
        }
        if (noSeconds(seconds) || what < 0 || what > 4) {
            return NOT_SO;
        }
        layPlain();
        going.pass(seconds);
        switch (what) {
            case 0: return one.at;
            case 1: return one.doing;
            case 2: return one.done;
            case 3: return one.waited;
            default: return one.has;
        }
    }

    public int height(int h, int seconds, int what) {
        if (noHeap(h)) {
            return NO_HEAP;
        }
        if (noSeconds(seconds) || what < 0 || what > 1) {
            return NOT_SO;
        }
        layPlain();
        going.pass(seconds);
        return what == 0 ? going.heapAt(h).high : going.heapAt(h).ranOut;
    }

    public int go(int seconds) {
        if (noSeconds(seconds)) {
            return BAD;
        }
        layPlain();
        going.pass(seconds);
        for (int h = 0; h < HEAPS; h++) {
            high[h] = going.heapAt(h).high;
        }
        return going.programmes;
    }

    public int off(int k) {
        if (k < 0 || k >= MOST_OFF) {
            return BAD;
        }
        layPlain();
        going.pass(ALL_SECONDS);
        return going.offAt(k);
    }

    public int find(int seconds, int what) {
        if (noSeconds(seconds) || what < 0 || what > 1) {
            return BAD;
        }
        layPlain();
        going.pass(seconds);
        if (going.offCount == 0) {
            return 0;
        }
        return what == 0 ? going.programmes - going.offAt(0) : going.offAt(going.offCount - 1) + 1;
    }

    // ---- orders, beginnings

    public int best(int what) {
        if (what < 0 || what > 2) {
            return BAD;
        }
        int second = NEVER;
        int programmes = NONE;
        int digits = 0;
        boolean another = true;
        orderByNumbers();
        for (int n = 0; n < ORDERS && another; n++) {
            layByOrder();
            // An order that is later than the best so far need not be gone to the end.
            int trial = Math.min(second + 1, ALL_SECONDS);
            going.pass(trial);
            int wanted = going.wantedIn == NONE ? NEVER : going.wantedIn;
            if (wanted <= second) {
                going.pass(ALL_SECONDS - trial);
                wanted = going.wantedIn == NONE ? NEVER : going.wantedIn;
                if (wanted < second || going.programmes > programmes) {
                    second = wanted;
                    programmes = going.programmes;
                    digits = orderAsDigits();
                }
            }
            another = nextOrder();
        }
        if (what == 0) {
            return second == NEVER ? NONE : second;
        }
        return what == 1 ? programmes : digits;
    }

    public int start(int w, int what) {
        Walker one = walkerOf(w);
        if (one == null) {
            return NO_SUCH;
        }
        if (what < 0 || what > 1) {
            return NOT_SO;
        }
        int from = NONE;
        int most = NONE;
        for (int h = 0; h < HEAPS; h++) {
            layPlain();
            one.at = h;
            going.pass(ALL_SECONDS);
            if (going.programmes > most) {
                from = h;
                most = going.programmes;
            }
        }
        return what == 0 ? from : most;
    }

    public int sit(int what) {
        if (what < 0 || what > 1) {
            return BAD;
        }
        int sitting = NONE;
        int most = NONE;
        for (int w = 0; w < walkerCount; w++) {
            layWithout(w);
            going.pass(ALL_SECONDS);
            if (going.programmes > most) {
                sitting = w;
                most = going.programmes;
            }
        }
        return what == 0 ? sitting : most;
    }

    public int worth(int w) {
        if (walkerOf(w) == null) {
            return NOT_WORTH;
        }
        layPlain();
        going.pass(ALL_SECONDS);
        int withOne = going.programmes;
        layWithout(w);
        going.pass(ALL_SECONDS);
        return withOne - going.programmes;
    }

    public int more(int h) {
        if (noHeap(h)) {
            return BAD;
        }
        for (int n = 0; n <= HIGHEST - high[h]; n++) {
            layPlain();
            Heap heap = going.heapAt(h);
            heap.high += n;
            for (int second = 0; second < ALL_SECONDS && !heap.missed; second++) {
                going.pass(1);
            }
            if (!heap.missed) {
                return n;
            }
        }
        return NONE;
    }

    private void layByOrder() {
        layHeaps();
        for (int i = 0; i < walkerCount && i < WALKERS; i++) {
            going.join(walkerOf(order[i]));
        }
    }

    private void orderByNumbers() {
        for (int i = 0; i < WALKERS; i++) {
            order[i] = i;
        }
    }

    private int orderAsDigits() {
        int digits = 0;
        for (int i = 0; i < walkerCount && i < WALKERS; i++) {
            digits = digits * 10 + order[i] + 1;
        }
        return digits;
    }

    /** The next order of those who are there, as in a dictionary; false: it was the last. */
    private boolean nextOrder() {
        int last = Math.min(walkerCount, WALKERS) - 1;
        int i = last - 1;
        for (; i >= 0; i--) {
            if (order[i] < order[i + 1]) {
                break;
            }
        }
        if (i < 0) {
            return false;
        }
        int j = last;
        for (; j > i + 1; j--) {
            if (order[j] > order[i]) {
                break;
            }
        }
        swapInOrder(i, j);
        for (int a = i + 1, b = last; a < b; a++, b--) {
            swapInOrder(a, b);
        }
        return true;
    }

    private void swapInOrder(int i, int j) {
        if (i >= 0 && i < WALKERS && j >= 0 && j < WALKERS) {
            int first = order[i];
            order[i] = order[j];
            order[j] = first;
        }
    }

    // ---- own stretches

    public int stretch(int what) {
        if (what < 0 || what > 2) {
            return BAD;
        }
        if (walkerCount == 0) {
            return NONE;
        }
        layHeaps();
        int most = planStretches();
        shareHeaps(most);
        if (what == 0) {
            return most;
        }
        return what == 1 ? sharesAsDigits() : secondsOfAll() + (want - 1) * most;
    }

    public int slowest() {
        if (walkerCount == 0) {
            return NONE;
        }
        layHeaps();
        int most = planStretches();
        shareHeaps(most);
        int first = 0;
        for (int w = 0; w < walkerCount && w < WALKERS; w++) {
            if (ownSeconds(w, first, shares[w]) == most) {
                return w;
            }
            first += shares[w];
        }
        return NONE;
    }

    /** Fills fewest[w][h], the most SECONDS of any when WALKERS from w on share HEAPS from h on best; tells that of all. */
    private int planStretches() {
        int all = Math.min(walkerCount, WALKERS);
        Arrays.fill(fewest[all], NEVER);
        fewest[all][HEAPS] = 0;
        for (int w = all - 1; w >= 0; w--) {
            for (int h = 0; h <= HEAPS; h++) {
                fewest[w][h] = fewestFrom(w, h);
            }
        }
        return fewest[0][0];
    }

    private int fewestFrom(int w, int h) {
        int least = NEVER;
        int own = 0;
        for (int next = h; next <= HEAPS; next++) {
            least = Math.min(least, Math.max(own, fewest[w + 1][next]));
            own += ownSeconds(w, next, 1);
        }
        return least;
    }

    /** Gives each WALKER as few HEAPS as leave the others a way that takes no one more than most. */
    private void shareHeaps(int most) {
        int h = 0;
        for (int w = 0; w < walkerCount && w < WALKERS; w++) {
            int n = 0;
            while (h + n < HEAPS && fewest[w + 1][h + n] > most) {
                n++;
            }
            shares[w] = n;
            h += n;
        }
    }

    private int sharesAsDigits() {
        int digits = 0;
        for (int w = 0; w < walkerCount && w < WALKERS; w++) {
            digits = digits * 10 + shares[w];
        }
        return digits;
    }

    private int secondsOfAll() {
        int seconds = 0;
        int first = 0;
        for (int w = 0; w < walkerCount && w < WALKERS; w++) {
            seconds += ownSeconds(w, first, shares[w]);
            first += shares[w];
        }
        return seconds;
    }

    private int ownSeconds(int w, int first, int n) {
        Walker one = walkerOf(w);
        int seconds = 0;
        for (int h = first; h < first + n && h < HEAPS && one != null; h++) {
            Heap heap = going.heapAt(h);
            seconds += going.takesOf(one, heap, 0) + going.stepOf(one, heap, 0);
        }
        return seconds;
    }

    // ---- told heaps

    public int judge(int s, int seconds) {
        int refusal = refusedJudging(s, seconds);
        if (refusal != 0) {
            return refusal;
        }
        layPlain();
        going.pass(seconds);
        return firstOtherwise(s);
    }

    public int when(int s, int what) {
        int refusal = refusedTelling(s);
        if (refusal != 0) {
            return refusal;
        }
        if (what < 0 || what > 1) {
            return NOT_SO;
        }
        int first = NONE;
        int times = 0;
        layPlain();
        for (int seconds = 0; seconds <= ALL_SECONDS; seconds++) {
            if (seconds > 0) {
                going.pass(1);
            }
            if (firstOtherwise(s) == NONE) {
                times++;
                first = first == NONE ? seconds : first;
            }
        }
        return what == 0 ? first : times;
    }

    public int sticks(int s, int seconds, int h) {
        int refusal = refusedJudging(s, seconds);
        if (refusal != 0) {
            return refusal;
        }
        if (noHeap(h)) {
            return NO_HEAP;
        }
        int bits = 0;
        for (int k = 0; k <= MOST_STICK; k++) {
            layPlain();
            going.heapAt(h).stick = k;
            going.pass(seconds);
            bits |= firstOtherwise(s) == NONE ? 1 << k : 0;
        }
        return bits;
    }

    public int kinds(int s, int seconds, int walkerSort) {
        int refusal = refusedJudging(s, seconds);
        if (refusal != 0) {
            return refusal;
        }
        Walker one = walkerOf(Math.floorDiv(walkerSort, 100));
        if (one == null) {
            return NO_SUCH;
        }
        int sort = Math.floorMod(walkerSort, 100);
        if (sort > 1) {
            return NOT_SO;
        }
        int bits = 0;
        for (int v = 0; v < (sort == 0 ? KINDS : HEAPS); v++) {
            int kind = sort == 0 ? v : one.kind();
            int from = sort == 0 ? one.from : v;
            layPlainWith(newWalker(kind, one.number, one.more, from));
            going.pass(seconds);
            bits |= firstOtherwise(s) == NONE ? 1 << v : 0;
        }
        return bits;
    }

    public int laws(int s, int seconds) {
        int refusal = refusedJudging(s, seconds);
        if (refusal != 0) {
            return refusal;
        }
        int bits = 0;
        for (int t = 0; t < textCount; t++) {
            layPlain();
            going.law = textOf(t);
            going.pass(seconds);
            bits |= firstOtherwise(s) == NONE ? 1 << t : 0;
        }
        return bits;
    }

    public int film(int s, int seconds) {
        Sheet sheet = sheetOf(s);
        if (sheet == null || noSeconds(seconds)) {
            return BAD;
        }
        layPlain();
        going.pass(seconds);
        sheet.become(SHORTS, HEAPS);
        for (int h = 0; h < HEAPS; h++) {
            sheet.put(h, going.heapAt(h).high);
        }
        return HEAPS;
    }

    /** Why a SHEET can't tell how HIGH all HEAPS are; 0: it can. */
    private int refusedTelling(int s) {
        Sheet sheet = sheetOf(s);
        if (sheet == null) {
            return BAD;
        }
        if (sheet.missing()) {
            return NOTHING;
        }
        return sheet.size == HEAPS ? 0 : BAD;
    }

    private int refusedJudging(int s, int seconds) {
        int refusal = refusedTelling(s);
        return refusal == 0 && noSeconds(seconds) ? NOT_SO : refusal;
    }

    /** The first HEAP that is otherwise in the GOING than the SHEET tells. */
    private int firstOtherwise(int s) {
        Sheet sheet = sheetOf(s);
        for (int h = 0; h < HEAPS && sheet != null; h++) {
            if (sheet.cell[h] != going.heapAt(h).high) {
                return h;
            }
        }
        return NONE;
    }

    // ---- heaps by lot

    public int drawn(int seed, int what) {
        if (seed < 0 || seed > MOST_SEED || what < 0 || what > 2) {
            return BAD;
        }
        layPlain();
        going.draw(seed);
        going.pass(ALL_SECONDS);
        switch (what) {
            case 0: return going.programmes;
            case 1: return going.wrong;
            default: return going.lacking;
        }
    }

    public long odds(int seed, int seeds, int seconds, int part) {
        if (seed < 0 || seed > MOST_SEED || seeds < 1 || seeds > MOST_SEEDS || noSeconds(seconds)
                || part < 0 || part > 1) {
            return NO;
        }
        int all = 0;
        int fine = 0;
        for (int i = 0; i < seeds; i++) {
            layPlain();
            going.draw(seed + i);
            going.pass(seconds);
            all += going.programmes;
            fine += going.programmes - going.wrong - going.lacking;
        }
        int common = commonDivisor(all, fine);
        if (common <= 0) {
            return NO;
        }
        return (part == 0 ? fine : all) / common;
    }

    /** The greatest of two numbers that aren't below 0; 0 of two 0. */
    private static int commonDivisor(int a, int b) {
        for (int n = 0; n < 64 && b != 0; n++) {
            int rest = a % b;
            a = b;
            b = rest;
        }
        return a;
    }

    public int image() {
        for (int h = 0; h < HEAPS; h++) {
            imageHigh[h] = high[h];
            imageStick[h] = stick[h];
        }
        for (int w = 0; w < walkerCount && w < WALKERS; w++) {
            Walker one = walkers[w];
            imageFrom[w] = one == null ? 0 : one.from;
        }
        imageWant = want;
        imageWalkers = walkerCount;
        imageLaw = law;
        return walkerCount;
    }

    public int back() {
        if (imageWalkers == NONE) {
            return STATE;
        }
        for (int h = 0; h < HEAPS; h++) {
            high[h] = imageHigh[h];
            stick[h] = imageStick[h];
        }
        // None but the last WALKERS can have come since, so KIND and MORE of the others are still theirs.
        for (int w = 0; w < WALKERS; w++) {
            Walker one = walkers[w];
            if (w >= imageWalkers) {
                walkers[w] = null;
            } else if (one != null) {
                one.from = imageFrom[w];
            }
        }
        want = imageWant;
        walkerCount = imageWalkers;
        law = imageLaw;
        return walkerCount;
    }

    // ---- the host

    public int sheet(int s, int sort, int n) {
        Sheet sheet = sheetOf(s);
        if (sheet == null || sort < NONE || sort > INTS) {
            return BAD;
        }
        if (sort == NONE) {
            sheet.become(NONE, 0);
            return 1;
        }
        if (n > MOST_CELLS) {
            return BAD;
        }
        if (n < 0) {
            return BELOW_0;
        }
        sheet.become(sort, n);
        return 1;
    }

    public int cell(int s, int i, int v) {
        Sheet sheet = sheetOf(s);
        if (sheet == null) {
            return BAD;
        }
        if (sheet.missing()) {
            return NOTHING;
        }
        if (!sheet.holds(i, 1)) {
            return OUTSIDE;
        }
        sheet.put(i, v);
        return 1;
    }

    public int copy(int s, int i, int other, int j, int n) {
        Sheet from = sheetOf(s);
        Sheet to = sheetOf(other);
        if (from == null || to == null) {
            return BAD;
        }
        if (from.missing() || to.missing()) {
            return NOTHING;
        }
        if (from.sort != to.sort) {
            return OTHER_SORT;
        }
        if (!from.holds(i, n) || !to.holds(j, n)) {
            return OUTSIDE;
        }
        System.arraycopy(from.cell, i, to.cell, j, n);
        return n;
    }

    public int walkersBy(int s, int sort, int at1, int n) {
        Sheet sheet = sheetOf(s);
        if (sheet == null || sort < 0 || sort > INTS || n < 0 || n > WALKERS) {
            return BAD;
        }
        if (sheet.missing()) {
            return NOTHING;
        }
        if (sheet.sort != sort) {
            return OTHER_SORT;
        }
        int came = 0;
        for (int k = 0; k < n; k++) {
            if (at1 < 0 || at1 > MOST_CELLS || !sheet.holds(at1 + 3 * k, 3)) {
                return OUTSIDE;
            }
            int i = at1 + 3 * k;
            if (walker(sheet.cell[i], sheet.cell[i + 1], sheet.cell[i + 2]) >= 0) {
                came++;
            }
        }
        return came;
    }

    public int taken(int i, int kind) {
        if (kind < 0 || kind > KINDS) {
            return BAD;
        }
        if (i < 0 || i >= HEAPS + WALKERS) {
            return OUTSIDE;
        }
        return i < HEAPS ? heapTaken(i, kind) : walkerTaken(i - HEAPS, kind);
    }

    private int heapTaken(int h, int kind) {
        if (noHeap(h) || high[h] == 0) {
            return NOTHING;
        }
        return kind == KINDS ? high[h] : OTHER_SORT;
    }

    private int walkerTaken(int w, int kind) {
        Walker one = walkerOf(w);
        if (one == null) {
            return NOTHING;
        }
        return one.isOf(kind) ? one.number : OTHER_SORT;
    }

    // ---- what several calls share

    private static boolean noHeap(int h) {
        return h < 0 || h >= HEAPS;
    }

    private static boolean noByte(int b) {
        return b < 0 || b > 255;
    }

    private static boolean noSeconds(int seconds) {
        return seconds < 0 || seconds > ALL_SECONDS;
    }

    private Walker walkerOf(int w) {
        return w >= 0 && w < walkerCount && w < WALKERS ? walkers[w] : null;
    }

    private Law textOf(int t) {
        return t >= 0 && t < textCount && t < TEXTS ? texts[t] : null;
    }

    private Sheet sheetOf(int s) {
        return s >= 0 && s < SHEETS ? sheets[s] : null;
    }

    private void layPlain() {
        layWithout(NONE);
    }

    private void layWithout(int w) {
        layHeaps();
        for (int i = 0; i < walkerCount; i++) {
            if (i != w) {
                going.join(walkerOf(i));
            }
        }
    }

    /** PLAIN, another one in the place of the WALKER whose number that one has. */
    private void layPlainWith(Walker other) {
        layHeaps();
        for (int i = 0; i < walkerCount; i++) {
            going.join(other != null && i == other.number ? other : walkerOf(i));
        }
    }

    private void layHeaps() {
        going.lay(high, stick, textOf(law), want, walkerCount);
    }

    private static Walker newWalker(int kind, int number, int more, int from) {
        switch (kind) {
            case 1: return new Quick(number, more, from);
            case 2: return new Thumbed(number, more, from);
            case 3: return new Passing(number, more, from);
            case 4: return new Grandfather(number, more, from);
            case 5: return new Two(number, more, from);
            default: return new Walker(number, more, from);
        }
    }

    /** A WALKER of KIND 0, with the place of one in a GOING; the other KINDS tell only what they do otherwise. */
    private static class Walker {
        static final int WALKS = 0, WAITS = 1, IS_TAKING = 2;

        final int number;
        final int more;
        int from;
        int at;
        int doing;
        int left;
        int done;
        int waited;
        int has;
        boolean blotted;
        boolean lacks;

        Walker(int number, int more, int from) {
            this.number = number;
            this.more = more;
            this.from = from;
        }

        int kind() {
            return 0;
        }

        boolean isOf(int kind) {
            return kind == 0;
        }

        int takesFor(int said, int soFar) {
            return said;
        }

        int stepFor(int said) {
            return said;
        }

        boolean waits() {
            return true;
        }

        final void beginGoing() {
            at = from;
            doing = WAITS;
            left = 0;
            done = 0;
            waited = 0;
            has = 0;
            blotted = false;
            lacks = false;
        }
    }

    private static class Quick extends Walker {
        Quick(int number, int more, int from) {
            super(number, more, from);
        }

        int kind() {
            return 1;
        }

        boolean isOf(int kind) {
            return kind == 1 || super.isOf(kind);
        }

        int stepFor(int said) {
            return said - more / 3;
        }
    }

    private static class Thumbed extends Walker {
        Thumbed(int number, int more, int from) {
            super(number, more, from);
        }

        int kind() {
            return 2;
        }

        boolean isOf(int kind) {
            return kind == 2 || super.isOf(kind);
        }

        int takesFor(int said, int soFar) {
            return said + more / 2;
        }
    }

    private static final class Passing extends Quick {
        Passing(int number, int more, int from) {
            super(number, more, from);
        }

        int kind() {
            return 3;
        }

        boolean isOf(int kind) {
            return kind == 3 || super.isOf(kind);
        }

        int takesFor(int said, int soFar) {
            return super.takesFor(said, soFar) + 1;
        }

        boolean waits() {
            return false;
        }
    }

    private static final class Grandfather extends Thumbed {
        Grandfather(int number, int more, int from) {
            super(number, more, from);
        }

        int kind() {
            return 4;
        }

        boolean isOf(int kind) {
            return kind == 4 || super.isOf(kind);
        }

        int takesFor(int said, int soFar) {
            return super.takesFor(said, soFar) + (soFar > more ? 2 : 1);
        }

        int stepFor(int said) {
            return said * 2;
        }
    }

    private static final class Two extends Walker {
        Two(int number, int more, int from) {
            super(number, more, from);
        }

        int kind() {
            return 5;
        }

        boolean isOf(int kind) {
            return kind == 5 || super.isOf(kind);
        }

        int takesFor(int said, int soFar) {
            return soFar >= more ? said / 2 : said;
        }
    }

    /** A HEAP as it stands in a GOING. */
    private static final class Heap {
        static final int FINE = 0, STUCK = 1, LACKED = 2;

        final int number;
        int high;
        int stick;
        int takings;
        int takers;
        int ranOut;
        boolean missed;

        Heap(int number) {
            this.number = number;
        }

        void beginGoing(int highThen, int stickThen) {
            high = highThen;
            stick = stickThen;
            takings = 0;
            takers = 0;
            ranOut = NONE;
            missed = false;
        }

        /** One LIFTS here: what that makes of the PROGRAMME. */
        int lift(int second) {
            if (high <= 0) {
                missed = true;
                return LACKED;
            }
            takings++;
            boolean two = stick != 0 && takings % stick == 0 && high >= 2;
            high -= two ? 2 : 1;
            if (high == 0) {
                ranOut = second;
            }
            return two ? STUCK : FINE;
        }
    }

    /** A GOING in thought: laid, joined by WALKERS in their order, then passed. */
    private static final class Going {
        private final Heap[] heaps = new Heap[HEAPS];
        private final Walker[] goers = new Walker[WALKERS];
        private int goerCount;
        private int many;
        private int want;
        private int second;
        private final int[] off = new int[MOST_OFF];
        Law law;
        int offCount;
        int programmes;
        int wrong;
        int lacking;
        int wantedIn;

        Going() {
            for (int h = 0; h < HEAPS; h++) {
                heaps[h] = new Heap(h);
            }
        }

        /** SECOND 0, nobody going yet; many: how many WALKERS there are, whoever goes. */
        void lay(int[] high, int[] stick, Law by, int wanted, int walkersThere) {
            for (int h = 0; h < HEAPS && h < high.length && h < stick.length; h++) {
                heaps[h].beginGoing(high[h], stick[h]);
            }
            law = by;
            want = wanted;
            many = walkersThere;
            goerCount = 0;
            second = 0;
            offCount = 0;
            programmes = 0;
            wrong = 0;
            lacking = 0;
            wantedIn = NONE;
        }

        void join(Walker one) {
            if (one != null && goerCount >= 0 && goerCount < WALKERS) {
                one.beginGoing();
                goers[goerCount] = one;
                goerCount++;
            }
        }

        /** The ring's HEAP of that number. */
        Heap heapAt(int h) {
            return heaps[Math.floorMod(h, HEAPS)];
        }

        /** STICK of all HEAPS as DRAWN by a SEED. */
        void draw(int seed) {
            long lot = seed + 1L;
            for (int h = 0; h < HEAPS; h++) {
                lot = lot * 48271L % 2147483647L;
                heaps[h].stick = (int) (lot % 10L);
            }
        }

        int offAt(int k) {
            return k >= 0 && k < offCount && k < MOST_OFF ? off[k] : NONE;
        }

        int badness() {
            int sum = 0;
            for (int i = 0; i < goerCount && i < WALKERS; i++) {
                Walker one = goers[i];
                if (one != null && law != null) {
                    sum += one.waited * law.says(Law.MINDS, one, 0, 0, one.done, many);
                }
            }
            return sum;
        }

        void pass(int seconds) {
            for (int n = 0; n < seconds; n++) {
                for (int i = 0; i < goerCount && i < WALKERS; i++) {
                    Walker one = goers[i];
                    if (one != null && one.left > 1) {
                        one.left--;
                    } else if (one != null) {
                        moveOn(one);
                    }
                }
                second++;
            }
        }

        /** What one does comes to its end in this SECOND, or one waits. */
        private void moveOn(Walker one) {
            Heap heap = heapAt(one.at);
            one.left = 0;
            if (one.doing == Walker.IS_TAKING) {
                endTaking(one, heap);
            } else if (heap.takers > 0 && one.waits()) {
                one.doing = Walker.WAITS;
                one.waited++;
            } else {
                one.doing = Walker.IS_TAKING;
                one.left = takesOf(one, heap, one.done);
                heap.takers++;
            }
        }

        private void endTaking(Walker one, Heap heap) {
            heap.takers--;
            int became = heap.lift(second);
            if (became == Heap.STUCK) {
                one.blotted = true;
            } else if (became == Heap.LACKED) {
                one.lacks = true;
            }
            one.has++;
            if (one.has == HEAPS) {
                endProgramme(one);
            }
            one.doing = Walker.WALKS;
            one.left = stepOf(one, heap, one.done);
            one.at = (one.at + 1) % HEAPS;
        }

        private void endProgramme(Walker one) {
            if (one.lacks) {
                lacking++;
            } else if (one.blotted) {
                wrong++;
            }
            if ((one.lacks || one.blotted) && offCount >= 0 && offCount < MOST_OFF) {
                off[offCount] = programmes;
                offCount++;
            }
            programmes++;
            if (programmes == want) {
                wantedIn = second;
            }
            one.done++;
            one.has = 0;
            one.blotted = false;
            one.lacks = false;
        }

        int takesOf(Walker one, Heap heap, int done) {
            int said = law == null ? 1 : law.says(Law.TAKES, one, heap.number, heap.high, done, many);
            return Math.max(1, one.takesFor(said, done));
        }

        int stepOf(Walker one, Heap heap, int done) {
            int said = law == null ? 1 : law.says(Law.STEPS, one, heap.number, heap.high, done, many);
            return Math.max(1, one.stepFor(said));
        }
    }

    /** A TEXT, each of its three parts as words for a stack: what is worked on stands ahead of what works on it. */
    private static final class Law {
        static final int TAKES = 0, STEPS = 1, MINDS = 2, PARTS = 3;
        static final int MOST_TAKES = 20, MOST_MINDS = 99;
        // A word of 0 or more is a number, -1 .. -6 are the NAMES, then come signs of two, at last signs of one.
        static final int NAMES = 6, LAST_NAME = -6, LAST_OF_TWO = -19;
        static final int OR = -11, AND = -12, LESS = -13, LIKE = -14, PLUS = -15, MINUS = -16, TIMES = -17;
        static final int NOT = -21, TURNED = -22;
        // Each of the 6 levels of ( can have 5 begun sums and the like, so 31 are enough.
        private static final int STACK = 40;

        private final int[] words;
        private final int[] starts;
        private final int[] stack = new int[STACK];
        private final int[] names = new int[NAMES];
        // What a part says that is but a number, as most are, and asked for in each second; else NONE.
        private final int[] lone = new int[PARTS];

        /** starts: where each part starts, and where the last one ends. */
        Law(int[] words, int[] starts) {
            this.words = words.clone();
            this.starts = starts.clone();
            for (int part = 0; part < PARTS; part++) {
                lone[part] = NONE;
                if (part + 1 < starts.length && starts[part + 1] == starts[part] + 1) {
                    int at = starts[part];
                    lone[part] = at >= 0 && at < words.length && words[at] >= 0 ? bounded(part, words[at]) : NONE;
                }
            }
        }

        int says(int part, Walker one, int heap, int left, int done, int many) {
            if (part < 0 || part >= PARTS || part + 1 >= starts.length || one == null) {
                return 0;
            }
            if (lone[part] != NONE) {
                return lone[part];
            }
            names[0] = heap;
            names[1] = one.number;
            names[2] = one.more;
            names[3] = left;
            names[4] = done;
            names[5] = many;
            int top = 0;
            for (int i = Math.max(0, starts[part]); i < starts[part + 1] && i < words.length; i++) {
                int word = words[i];
                int needs = word >= LAST_NAME ? 0 : word >= LAST_OF_TWO ? 2 : 1;
                int base = top - needs;
                if (base < 0 || top >= STACK) {
                    return 0;
                }
                stack[base] = needs == 0 ? read(word) : worked(word, stack[base], stack[top - 1]);
                top = base + 1;
            }
            return bounded(part, top == 1 ? stack[0] : 0);
        }

        private static int bounded(int part, int said) {
            return part == MINDS ? Math.min(MOST_MINDS, Math.max(0, said)) : Math.min(MOST_TAKES, Math.max(1, said));
        }

        private int read(int word) {
            int name = -1 - word;
            return name >= 0 && name < NAMES ? names[name] : word;
        }

        private static int worked(int word, int a, int b) {
            switch (word) {
                case OR: return a != 0 || b != 0 ? 1 : 0;
                case AND: return a != 0 && b != 0 ? 1 : 0;
                case LESS: return a < b ? 1 : 0;
                case LIKE: return a == b ? 1 : 0;
                case PLUS: return a + b;
                case MINUS: return a - b;
                case TIMES: return a * b;
                case NOT: return b == 0 ? 1 : 0;
                default: return -b;
            }
        }
    }

    /** THE TAPE, and how a TEXT is read from it, with one TOKEN looked at ahead. */
    private static final class Tape {
        // A sign's TOKEN is its own byte; these stand below all signs.
        private static final int END = 0, BROKEN = 1, NUMBER = 2, NAME = 3;
        private static final int TAKES = 4, STEPS = 5, MINDS = 6, OR = 7, AND = 8, NOT = 9;
        private static final int MOST_DIGITS = 4;

        private final int[] bytes = new int[TAPE];
        int size;
        private int place;
        private int token;
        private int tokenAt;
        private int tokenWord;
        private int fault;
        private final int[] words = new int[TAPE];
        private int wordCount;
        private final int[] starts = new int[Law.PARTS + 1];

        void add(int b) {
            if (size >= 0 && size < TAPE) {
                bytes[size] = b;
                size++;
            }
        }

        /** Reads THE TAPE as a TEXT: the place of its FAULT, or NONE. */
        int read() {
            place = 0;
            fault = NONE;
            wordCount = 0;
            nextToken();
            readPart(Law.TAKES, TAKES);
            readPart(Law.STEPS, STEPS);
            readPart(Law.MINDS, MINDS);
            starts[Law.PARTS] = wordCount;
            if (token != END) {
                fail();
            }
            return fault;
        }

        Law lastRead() {
            int n = Math.max(0, Math.min(wordCount, TAPE));
            return new Law(Arrays.copyOf(words, n), starts);
        }

        private void readPart(int part, int key) {
            if (part >= 0 && part < Law.PARTS) {
                starts[part] = wordCount;
            }
            expect(key);
            readOr(0);
            expect(';');
        }

        // Of the functions below, open tells how many ( and not and - are open; behind a FAULT they read on in vain.

        private void readOr(int open) {
            readAnd(open);
            for (int n = 0; n < TAPE && token == OR && fault == NONE; n++) {
                nextToken();
                readAnd(open);
                put(Law.OR);
            }
        }

        private void readAnd(int open) {
            readNot(open);
            for (int n = 0; n < TAPE && token == AND && fault == NONE; n++) {
                nextToken();
                readNot(open);
                put(Law.AND);
            }
        }

        private void readNot(int open) {
            if (token == NOT) {
                if (mayOpen(open)) {
                    nextToken();
                    readNot(open + 1);
                    put(Law.NOT);
                }
                return;
            }
            readSum(open);
            if (token == '<' || token == '=') {
                int word = token == '<' ? Law.LESS : Law.LIKE;
                nextToken();
                readSum(open);
                put(word);
            }
        }

        private void readSum(int open) {
            readTerm(open);
            for (int n = 0; n < TAPE && (token == '+' || token == '-') && fault == NONE; n++) {
                int word = token == '+' ? Law.PLUS : Law.MINUS;
                nextToken();
                readTerm(open);
                put(word);
            }
        }

        private void readTerm(int open) {
            readOne(open);
            for (int n = 0; n < TAPE && token == '*' && fault == NONE; n++) {
                nextToken();
                readOne(open);
                put(Law.TIMES);
            }
        }

        private void readOne(int open) {
            if (token == NUMBER || token == NAME) {
                put(tokenWord);
                nextToken();
            } else if (token == '-' && mayOpen(open)) {
                nextToken();
                readOne(open + 1);
                put(Law.TURNED);
            } else if (token == '(' && mayOpen(open)) {
                nextToken();
                readOr(open + 1);
                expect(')');
            } else {
                fail();
            }
        }

        private boolean mayOpen(int open) {
            if (open >= MOST_OPEN) {
                fail();
            }
            return fault == NONE;
        }

        private void expect(int wanted) {
            if (token == wanted) {
                nextToken();
            } else {
                fail();
            }
        }

        /** The TOKEN can't stand here; no later one is at FAULT then. */
        private void fail() {
            if (fault == NONE) {
                fault = tokenAt;
            }
        }

        private void put(int word) {
            if (wordCount >= 0 && wordCount < TAPE) {
                words[wordCount] = word;
                wordCount++;
            }
        }

        private void nextToken() {
            for (int n = 0; n < TAPE && (byteAt(place) == ' ' || byteAt(place) == '\n'); n++) {
                place++;
            }
            tokenAt = place;
            int first = byteAt(place);
            if (first == NONE) {
                token = END;
            } else if (isLetter(first)) {
                takeWord();
            } else if (isDigit(first)) {
                takeNumber();
            } else {
                place++;
                token = isSign(first) ? first : BROKEN;
            }
        }

        private void takeWord() {
            for (int n = 0; n < TAPE && isLetter(byteAt(place)); n++) {
                place++;
            }
            token = spells("takes") ? TAKES : spells("steps") ? STEPS : spells("minds") ? MINDS
                    : spells("or") ? OR : spells("and") ? AND : spells("not") ? NOT : BROKEN;
            int name = spells("heap") ? 0 : spells("walker") ? 1 : spells("more") ? 2
                    : spells("left") ? 3 : spells("done") ? 4 : spells("many") ? 5 : NONE;
            if (name != NONE) {
                token = NAME;
                tokenWord = -1 - name;
            }
        }

        private void takeNumber() {
            int value = 0;
            for (int n = 0; n < TAPE && isDigit(byteAt(place)); n++) {
                value = value * 10 + byteAt(place) - '0';
                place++;
            }
            token = place - tokenAt > MOST_DIGITS ? BROKEN : NUMBER;
            tokenWord = value;
        }

        /** Whether the bytes from the TOKEN's first one up to the place are those letters. */
        private boolean spells(String word) {
            if (word.length() != place - tokenAt) {
                return false;
            }
            for (int i = 0; i < word.length(); i++) {
                int at = tokenAt + i;
                if (at < 0 || at >= TAPE || bytes[at] != word.charAt(i)) {
                    return false;
                }
            }
            return true;
        }

        private int byteAt(int i) {
            return i >= 0 && i < size && i < TAPE ? bytes[i] : NONE;
        }

        private static boolean isLetter(int b) {
            return b >= 'a' && b <= 'z';
        }

        private static boolean isDigit(int b) {
            return b >= '0' && b <= '9';
        }

        private static boolean isSign(int b) {
            return b == '(' || b == ')' || b == ';' || b == '+' || b == '-' || b == '*' || b == '<' || b == '=';
        }
    }

    /** A row of numbers of a sort, or missing. */
    private static final class Sheet {
        private static final int BYTES = 0;

        int sort = NONE;
        int size;
        final int[] cell = new int[MOST_CELLS];

        void become(int newSort, int n) {
            sort = newSort;
            size = Math.max(0, Math.min(n, MOST_CELLS));
            Arrays.fill(cell, 0);
        }

        boolean missing() {
            return sort == NONE;
        }

        /** Whether n places from i on are all within. */
        boolean holds(int i, int n) {
            return i >= 0 && n >= 0 && i <= size - n;
        }

        void put(int i, int v) {
            if (holds(i, 1)) {
                cell[i] = sort == BYTES ? (byte) v : sort == SHORTS ? (short) v : v;
            }
        }
    }
}
