import java.util.Arrays;

/**
 * Names drawn for presents out of a hat, as shared/DOC.md tells it.
 *
 * A drawing is held inside as one int, three bits a mate (a CODE): so years,
 * hats and all right drawings are plain ints, and no call makes an object.
 */
public final class HatDraw {
    public static final int BAD = -1, FULL = -2, FINDING = -3, STATE = -4, SPENT = -6, NONE = -9;

    private static final int NOTHING = 1, BEYOND = 2, UNLIKE = 3, NOUGHT = 4, SIZE = 5;

    private static final int MATE = 0, BOSS = 1, NEW = 2, SHY = 3, CASHIER = 4, PORTER = 5;
    private static final int[] LETTERS = {109, 98, 110, 115, 99, 112};

    private static final int RULE_BACK = 1, RULE_YEARS = 2, RULE_TABLES = 4, RULE_RING = 8;
    private static final int FIRST_RULES = 7, ALL_RULES = 15;

    private static final int BY_NONE = 0, BY_SELF = 1, BY_KINDS = 2, BY_TABLES = 3;
    private static final int BY_YEARS = 4, BY_BACK = 5, BY_RING = 6;

    private static final int MOST_MATES = 6, MOST_YEARS = 12, MOST_RUN = 30;
    private static final int MOST_ROWS = 6, ROW_PLACES = 40;
    private static final int MOST_TEXTS = 4, TEXT_PLACES = 60;
    private static final int MOST_KEPT = 3, LAST_FIGURE = 9, MISSING = -1;
    private static final int BLANK = 32, FIGURE_0 = 48, FIGURE_9 = 57;

    /** So many ways six mates can draw if nobody draws oneself: no office has more right drawings. */
    private static final int MOST_RIGHT = 265;

    /** Parted among 1 to 6, then among 1 to 5, .. it never leaves a rest: 60 * 60 * 12 * 6 * 2. */
    private static final int WHOLE = 518400;

    private static final long LOT_FACTOR = 48271L, LOT_MODULUS = 2147483647L;

    private final Rows rows;
    private final Texts texts;
    private final Office here;
    private final Office trial;
    private final Search right;
    private final Search tried;
    /** The hat: the code of what was drawn so far (0 for those who have not), and by how many. */
    private int hat;
    private int drawn;
    private final int[] keptHats;
    private final int[] keptDrawn;
    private final int[] keptRules;
    /** The list of right drawings is no longer that of the office. */
    private boolean stale;
    private int told;
    private long upperTold;
    private long lowerTold;
    private int lastFinding;
    private final int[] findingCounts;

    public HatDraw() {
        rows = new Rows();
        texts = new Texts();
        here = new Office();
        trial = new Office();
        right = new Search();
        tried = new Search();
        keptHats = new int[MOST_KEPT];
        keptDrawn = new int[MOST_KEPT];
        keptRules = new int[MOST_KEPT];
        findingCounts = new int[SIZE + 1];
        Arrays.fill(keptDrawn, MISSING);
        lowerTold = 1;
        stale = true;
    }

    // ---- 1 rows, texts, offices

    public int row(int r, int n) {
        if (!isRow(r) || n > ROW_PLACES) {
            return BAD;
        }
        if (n < 0) {
            return refuse(SIZE);
        }
        rows.renew(r, n);
        return n;
    }

    public int lay(int r, int i, int v) {
        if (!isRow(r)) {
            return BAD;
        }
        int why = rows.missesPlace(r, i);
        if (why != 0) {
            return refuse(why);
        }
        told = rows.cells[r][i];
        rows.cells[r][i] = v;
        return 1;
    }

    public int at(int r, int i) {
        if (!isRow(r)) {
            return BAD;
        }
        int why = rows.missesPlace(r, i);
        if (why != 0) {
            return refuse(why);
        }
        told = rows.cells[r][i];
        return 1;
    }

    public int tear(int r) {
        if (!isRow(r)) {
            return BAD;
        }
        if (rows.isMissing(r)) {
            return refuse(NOTHING);
        }
        rows.sizes[r] = MISSING;
        return 1;
    }

    public int copy(int r, int i, int to, int j, int n) {
        if (!isRow(r) || !isRow(to)) {
            return BAD;
        }
        if (n < 0) {
            return refuse(SIZE);
        }
        if (rows.isMissing(r) || rows.isMissing(to)) {
            return refuse(NOTHING);
        }
        if (!rows.hasPlaces(r, i, n) || !rows.hasPlaces(to, j, n)) {
            return refuse(BEYOND);
        }
        System.arraycopy(rows.cells[r], i, rows.cells[to], j, n);
        return 1;
    }

    public int mean(int r) {
        if (!isRow(r)) {
            return BAD;
        }
        if (rows.isMissing(r)) {
            return refuse(NOTHING);
        }
        int size = rows.sizes[r];
        if (size == 0) {
            return refuse(NOUGHT);
        }
        long sum = 0;
        for (int i = 0; i < size; i++) {
            sum += rows.cells[r][i];
        }
        told = (int) (sum / size);
        return 1;
    }

    public int text(int t, int n) {
        if (!isText(t) || n > TEXT_PLACES) {
            return BAD;
        }
        if (n < 0) {
            return refuse(SIZE);
        }
        texts.renew(t, n);
        return n;
    }

    public int put(int t, int i, int v) {
        if (!isText(t)) {
            return BAD;
        }
        if (texts.isMissing(t)) {
            return refuse(NOTHING);
        }
        if (i < 0 || i >= texts.sizes[t]) {
            return refuse(BEYOND);
        }
        int was = texts.cells[t][i];
        texts.cells[t][i] = (byte) v;
        return was + 1000;
    }

    public int fault(int t) {
        if (!isText(t)) {
            return BAD;
        }
        if (texts.isMissing(t)) {
            return refuse(NOTHING);
        }
        return texts.firstFault(t);
    }

    public int office(int t) {
        if (!isText(t)) {
            return BAD;
        }
        if (texts.isMissing(t)) {
            return refuse(NOTHING);
        }
        if (texts.firstFault(t) != NONE) {
            return STATE;
        }
        here.settle(texts.cells[t], texts.sizes[t]);
        hat = 0;
        drawn = 0;
        Arrays.fill(keptDrawn, MISSING);
        stale = true;
        return here.size;
    }

    public int mate(int x, int what) {
        if (!isMate(x) || what < 0 || what > 3) {
            return BAD;
        }
        told = here.fact(x, what);
        return 1;
    }

    public int mark(int x, int kind) {
        if (!isMate(x) || kind <= MATE || kind > PORTER) {
            return BAD;
        }
        if (!isOf(here.kinds[x], kind)) {
            return refuse(UNLIKE);
        }
        switch (kind) {
            case BOSS:
                return here.othersAtTable(x);
            case NEW:
                return here.yearsPaired(x);
            case SHY:
                return here.worthier(x);
            case CASHIER:
                return Integer.bitCount(here.open(x));
            default:
                return here.othersBarredFrom(x);
        }
    }

    public int rules(int v) {
        if (v < 0 || v > ALL_RULES) {
            return BAD;
        }
        int was = here.rules;
        here.rules = v;
        stale = true;
        return was;
    }

    public int move(int x, int table) {
        if (!isMate(x) || table < 0 || table > LAST_FIGURE) {
            return BAD;
        }
        int was = here.tables[x];
        here.tables[x] = table;
        stale = true;
        return was;
    }

    public int may(int x) {
        if (!isMate(x)) {
            return BAD;
        }
        return here.open(x);
    }

    // ---- 2 drawings

    public int judge(int r) {
        if (!isRow(r)) {
            return BAD;
        }
        int code = drawingIn(r);
        if (code < 0) {
            return refuse(-code);
        }
        for (int x = 0; x < here.size; x++) {
            int why = here.against(x, code);
            if (why != BY_NONE) {
                told = why;
                return x;
            }
        }
        if (here.breaksRing(code)) {
            told = BY_RING;
            return 0;
        }
        told = BY_NONE;
        return here.size;
    }

    public int ways() {
        listRight();
        return right.found;
    }

    public int nth(int i, int r) {
        if (i < 0 || !isRow(r)) {
            return BAD;
        }
        listRight();
        if (i >= right.found) {
            return refuse(NOUGHT);
        }
        layDrawing(r, right.codes[i]);
        return 1;
    }

    public int number(int r) {
        if (!isRow(r)) {
            return BAD;
        }
        int code = drawingIn(r);
        if (code < 0) {
            return refuse(-code);
        }
        listRight();
        return right.placeOf(code, -1);
    }

    public int lot(int seed, int r) {
        if (!isSeed(seed) || !isRow(r)) {
            return BAD;
        }
        listRight();
        if (right.found == 0) {
            return refuse(NOUGHT);
        }
        int i = nextLot(seed) % right.found;
        layDrawing(r, right.codes[i]);
        return i;
    }

    // ---- 3 papers one by one

    public int draw(int x) {
        if (!isMate(x)) {
            return BAD;
        }
        if (drawn >= here.size || isTaken(x) || here.barrier(drawn, x) != BY_NONE || here.drawsBack(drawn, x, hat)) {
            return STATE;
        }
        takePaper(x);
        return drawn;
    }

    public int undo(int n) {
        if (n < 0 || n > drawn) {
            return BAD;
        }
        int back = drawn - n;
        drawn = n;
        hat &= firstOnes(n);
        return back;
    }

    public int drew(int x) {
        if (!isMate(x)) {
            return BAD;
        }
        return x < drawn ? paper(hat, x) : NONE;
    }

    public int can() {
        listRight();
        told = right.fitting(hat, firstOnes(drawn));
        return nextOpen();
    }

    public int turns(int x, int y) {
        if (!isMate(x) || !isMate(y)) {
            return BAD;
        }
        listRight();
        if (right.fitting(hat, firstOnes(drawn)) == 0) {
            return refuse(NOUGHT);
        }
        if (x < drawn) {
            tellFraction(paper(hat, x) == y ? 1 : 0, 1);
            return 1;
        }
        tellFraction(right.shareByTurns(hat, drawn, x, y), WHOLE);
        return 1;
    }

    public int alike(int x, int y) {
        if (!isMate(x) || !isMate(y)) {
            return BAD;
        }
        listRight();
        int like = right.fitting(hat, firstOnes(drawn));
        if (like == 0) {
            return refuse(NOUGHT);
        }
        int so = 0;
        for (int i = 0; i < right.found; i++) {
            if (right.fitsAt(i, hat, firstOnes(drawn)) && paper(right.codes[i], x) == y) {
                so++;
            }
        }
        tellFraction(so, like);
        return 1;
    }

    public int play(int seed) {
        if (!isSeed(seed)) {
            return BAD;
        }
        listRight();
        int lot = seed;
        for (int k = 0; k < MOST_MATES; k++) {
            int open = nextOpen();
            int choices = Integer.bitCount(open);
            if (choices == 0) {
                break;
            }
            lot = nextLot(lot);
            takePaper(bitNumber(open, lot % choices));
        }
        return drawn;
    }

    public int keep(int k) {
        if (!isKeptPlace(k)) {
            return BAD;
        }
        if (here.size == 0) {
            return STATE;
        }
        keptHats[k] = hat;
        keptDrawn[k] = drawn;
        keptRules[k] = here.rules;
        return drawn;
    }

    public int on(int k) {
        if (!isKeptPlace(k)) {
            return BAD;
        }
        if (keptDrawn[k] == MISSING) {
            return refuse(NOTHING);
        }
        hat = keptHats[k];
        drawn = keptDrawn[k];
        here.rules = keptRules[k];
        stale = true;
        return drawn;
    }

    // ---- 4 years

    public int year(int r) {
        if (!isRow(r)) {
            return BAD;
        }
        if (here.yearCount >= MOST_YEARS) {
            return FULL;
        }
        if (here.size == 0) {
            return STATE;
        }
        int code = drawingIn(r);
        if (code < 0) {
            return refuse(-code);
        }
        here.addYear(code);
        stale = true;
        return here.yearCount - 1;
    }

    public int forget(int n) {
        if (n < 0 || n > here.yearCount) {
            return BAD;
        }
        int gone = here.yearCount - n;
        here.yearCount = n;
        stale = true;
        return gone;
    }

    public int run() {
        if (here.size == 0) {
            return 0;
        }
        trial.become(here);
        for (int k = 0; k < MOST_RUN; k++) {
            if (tried.list(trial, 1, true) == 0) {
                return k;
            }
            trial.addYear(tried.codes[0]);
        }
        return MOST_RUN;
    }

    public int times(int x, int y) {
        if (!isMate(x) || !isMate(y) || x == y) {
            return BAD;
        }
        int sum = 0;
        for (int k = 0; k < here.yearCount; k++) {
            if (paper(here.years[k], x) == y) {
                sum++;
            }
        }
        return sum;
    }

    // ---- 5 what those know who talk

    public int fits(int r, int set) {
        if (!isRow(r) || !isSet(set)) {
            return BAD;
        }
        int code = rightDrawingIn(r);
        if (code < 0) {
            return refuse(-code);
        }
        return right.fitting(code, papersOf(set));
    }

    public int known(int r, int set) {
        if (!isRow(r) || !isSet(set)) {
            return BAD;
        }
        int code = rightDrawingIn(r);
        if (code < 0) {
            return refuse(-code);
        }
        int unlike = right.differing(code, papersOf(set));
        int all = 0;
        for (int x = 0; x < here.size; x++) {
            if ((set >> x & 1) == 0 && paper(unlike, x) == 0) {
                all |= 1 << x;
            }
        }
        return all;
    }

    public int still(int r, int set) {
        if (!isRow(r) || !isSet(set)) {
            return BAD;
        }
        int code = rightDrawingIn(r);
        if (code < 0) {
            return refuse(-code);
        }
        int best = NONE;
        int most = 0;
        for (int x = 0; x < here.size; x++) {
            if ((set >> x & 1) != 0) {
                int fit = right.fitting(code, papersOf(set & ~(1 << x)));
                if (fit > most) {
                    most = fit;
                    best = x;
                }
            }
        }
        if (best != NONE) {
            told = most;
        }
        return best;
    }

    public int fewest(int r) {
        if (!isRow(r)) {
            return BAD;
        }
        int code = rightDrawingIn(r);
        if (code < 0) {
            return refuse(-code);
        }
        int best = (1 << here.size) - 1;
        for (int set = 0; set < 1 << here.size; set++) {
            // alone fewer bits are better: of as many, the set that came first is the least
            if (Integer.bitCount(set) < Integer.bitCount(best) && right.fitting(code, papersOf(set)) == 1) {
                best = set;
            }
        }
        told = best;
        return Integer.bitCount(best);
    }

    // ---- 6 rules dropped, tables, rings, worth

    public int drop() {
        trial.become(here);
        int best = NONE;
        for (int left = ALL_RULES; left >= 0; left--) {
            boolean part = (left & ~here.rules) == 0;
            boolean more = best == NONE || Integer.bitCount(left) > Integer.bitCount(best);
            if (part && more) {
                trial.rules = left;
                if (tried.list(trial, 1, false) > 0) {
                    best = left;
                }
            }
        }
        if (best == NONE) {
            return NONE;
        }
        told = best;
        return Integer.bitCount(here.rules) - Integer.bitCount(best);
    }

    public int table(int x) {
        if (!isMate(x)) {
            return BAD;
        }
        trial.become(here);
        int best = 0;
        int most = -1;
        for (int seat = 0; seat <= LAST_FIGURE; seat++) {
            trial.tables[x] = seat;
            int found = tried.list(trial, MOST_RIGHT, false);
            if (found > most) {
                most = found;
                best = seat;
            }
        }
        told = most;
        return best;
    }

    public int rings(int r) {
        if (!isRow(r)) {
            return BAD;
        }
        int code = drawingIn(r);
        if (code < 0) {
            return refuse(-code);
        }
        told = here.size == 0 ? 0 : Integer.bitCount(ringOf(code, 0));
        return ringCount(code, here.size);
    }

    public int ringed(int k) {
        if (k < 0 || k > MOST_MATES) {
            return BAD;
        }
        listRight();
        if (right.found == 0) {
            return refuse(NOUGHT);
        }
        int so = 0;
        for (int i = 0; i < right.found; i++) {
            if (ringCount(right.codes[i], here.size) == k) {
                so++;
            }
        }
        tellFraction(so, right.found);
        return so;
    }

    public int even(int r) {
        if (!isRow(r)) {
            return BAD;
        }
        listRight();
        int best = NONE;
        int least = LAST_FIGURE + 1;
        for (int i = 0; i < right.found; i++) {
            int uneven = here.greatestDifference(right.codes[i]);
            if (uneven < least) {
                least = uneven;
                best = i;
            }
        }
        if (best == NONE) {
            return NONE;
        }
        layDrawing(r, right.codes[best]);
        return least;
    }

    public int gain(int r, int x) {
        if (!isRow(r) || !isMate(x)) {
            return BAD;
        }
        int code = drawingIn(r);
        if (code < 0) {
            return refuse(-code);
        }
        for (int giver = 0; giver < here.size; giver++) {
            if (paper(code, giver) == x) {
                told = here.worths[giver] - here.worths[x];
            }
        }
        return 1;
    }

    // ---- 7 what is told

    public int asked() {
        return told;
    }

    public long upper() {
        return upperTold;
    }

    public long lower() {
        return lowerTold;
    }

    public int count(int what) {
        switch (what) {
            case 0:
                return here.size;
            case 1:
                return drawn;
            case 2:
                return here.yearCount;
            case 3:
                return here.howManyOf(BOSS);
            case 4:
                return here.howManyOf(NEW);
            case 5:
                return howManyThere(keptDrawn);
            case 6:
                return howManyThere(rows.sizes);
            case 7:
                return howManyThere(texts.sizes);
            default:
                return BAD;
        }
    }

    public int finding() {
        return lastFinding;
    }

    public int findings(int f) {
        if (f < NOTHING || f > SIZE) {
            return BAD;
        }
        return findingCounts[f];
    }

    public long digest() {
        long h = 17;
        for (int what = 0; what <= 7; what++) {
            h = 31 * h + count(what);
        }
        h = 31 * h + here.rules;
        for (int x = 0; x < here.size; x++) {
            for (int what = 0; what <= 3; what++) {
                h = 31 * h + here.fact(x, what);
            }
        }
        h = mixPapers(h, hat, drawn);
        for (int k = 0; k < here.yearCount; k++) {
            h = mixPapers(h, here.years[k], here.size);
        }
        for (int k = 0; k < MOST_KEPT; k++) {
            h = 31 * h + keptDrawn[k];
        }
        return texts.mixAll(rows.mixAll(h));
    }

    // ---- what the calls share

    private static boolean isRow(int r) {
        return r >= 0 && r < MOST_ROWS;
    }

    private static boolean isText(int t) {
        return t >= 0 && t < MOST_TEXTS;
    }

    private static boolean isKeptPlace(int k) {
        return k >= 0 && k < MOST_KEPT;
    }

    private static boolean isSeed(int seed) {
        return seed >= 1 && seed < LOT_MODULUS;
    }

    private boolean isMate(int x) {
        return x >= 0 && x < here.size;
    }

    private boolean isSet(int set) {
        return set >= 0 && set < 1 << here.size;
    }

    private int refuse(int why) {
        lastFinding = why;
        findingCounts[why]++;
        return FINDING;
    }

    private void tellFraction(int up, int low) {
        int a = up;
        int b = low;
        for (int k = 0; k < 64 && b != 0; k++) {
            int rest = a % b;
            a = b;
            b = rest;
        }
        int divisor = Math.max(a, 1);
        upperTold = up / divisor;
        lowerTold = low / divisor;
    }

    private void listRight() {
        if (stale) {
            right.list(here, MOST_RIGHT, false);
            stale = false;
        }
    }

    /** The code of the drawing in a row; if it is none, the finding that says why, below 0. */
    private int drawingIn(int r) {
        if (rows.isMissing(r)) {
            return -NOTHING;
        }
        if (rows.sizes[r] != here.size) {
            return -SIZE;
        }
        int code = 0;
        int seen = 0;
        for (int x = 0; x < here.size; x++) {
            int y = rows.cells[r][x];
            if (!isMate(y) || (seen >> y & 1) != 0) {
                return -UNLIKE;
            }
            seen |= 1 << y;
            code |= y << 3 * x;
        }
        return code;
    }

    private int rightDrawingIn(int r) {
        int code = drawingIn(r);
        if (code < 0) {
            return code;
        }
        listRight();
        return right.placeOf(code, -1) == NONE ? -UNLIKE : code;
    }

    private void layDrawing(int r, int code) {
        rows.renew(r, here.size);
        for (int x = 0; x < here.size; x++) {
            rows.cells[r][x] = paper(code, x);
        }
    }

    private boolean isTaken(int x) {
        for (int k = 0; k < drawn; k++) {
            if (paper(hat, k) == x) {
                return true;
            }
        }
        return false;
    }

    private void takePaper(int x) {
        hat |= x << 3 * drawn;
        drawn++;
    }

    /** Whom the next may draw so that it can still come out; the list must be that of the office. */
    private int nextOpen() {
        int open = 0;
        if (drawn < here.size) {
            for (int i = 0; i < right.found; i++) {
                if (right.fitsAt(i, hat, firstOnes(drawn))) {
                    open |= 1 << paper(right.codes[i], drawn);
                }
            }
        }
        return open;
    }

    private int papersOf(int set) {
        int mask = 0;
        for (int x = 0; x < here.size; x++) {
            if ((set >> x & 1) != 0) {
                mask |= 7 << 3 * x;
            }
        }
        return mask;
    }

    private static int paper(int code, int x) {
        return code >> 3 * x & 7;
    }

    private static int firstOnes(int n) {
        return (1 << 3 * n) - 1;
    }

    private static int nextLot(int lot) {
        return (int) (LOT_FACTOR * lot % LOT_MODULUS);
    }

    /** The place of bit number n (from 0, the least first) of a set; such a bit must be there. */
    private static int bitNumber(int set, int n) {
        int left = n;
        for (int y = 0; y < MOST_MATES; y++) {
            if ((set >> y & 1) != 0) {
                if (left == 0) {
                    return y;
                }
                left--;
            }
        }
        return 0;
    }

    private static boolean isOf(int kind, int wanted) {
        return kind == wanted || wanted == BOSS && kind == PORTER || wanted == NEW && kind == CASHIER;
    }

    private static int kindOf(int letter) {
        for (int kind = 0; kind < LETTERS.length; kind++) {
            if (LETTERS[kind] == letter) {
                return kind;
            }
        }
        return NONE;
    }

    /** The set of those in one's ring. */
    private static int ringOf(int code, int x) {
        int set = 0;
        int y = x;
        for (int k = 0; k < MOST_MATES; k++) {
            set |= 1 << y;
            y = paper(code, y);
        }
        return set;
    }

    private static int ringCount(int code, int size) {
        int seen = 0;
        int sum = 0;
        for (int x = 0; x < size; x++) {
            if ((seen >> x & 1) == 0) {
                seen |= ringOf(code, x);
                sum++;
            }
        }
        return sum;
    }

    private static int howManyThere(int[] sizes) {
        int sum = 0;
        for (int k = 0; k < sizes.length; k++) {
            if (sizes[k] != MISSING) {
                sum++;
            }
        }
        return sum;
    }

    private static long mixPapers(long start, int code, int size) {
        long h = start;
        for (int x = 0; x < size; x++) {
            h = 31 * h + paper(code, x);
        }
        return h;
    }

    /** The rows of ints; a missing one has the size MISSING. */
    private static final class Rows {
        final int[][] cells;
        final int[] sizes;

        Rows() {
            cells = new int[MOST_ROWS][ROW_PLACES];
            sizes = new int[MOST_ROWS];
            Arrays.fill(sizes, MISSING);
        }

        boolean isMissing(int r) {
            return sizes[r] == MISSING;
        }

        void renew(int r, int n) {
            Arrays.fill(cells[r], 0);
            sizes[r] = n;
        }

        /** The finding if there is no such place, else 0. */
        int missesPlace(int r, int i) {
            if (isMissing(r)) {
                return NOTHING;
            }
            return i < 0 || i >= sizes[r] ? BEYOND : 0;
        }

        boolean hasPlaces(int r, int i, int n) {
            return i >= 0 && i <= sizes[r] && n <= sizes[r] - i;
        }

        long mixAll(long start) {
            long h = start;
            for (int r = 0; r < MOST_ROWS; r++) {
                h = 31 * h + sizes[r];
                for (int i = 0; i < sizes[r]; i++) {
                    h = 31 * h + cells[r][i];
                }
            }
            return h;
        }
    }

    /** The texts, and how an office is read from one. */
    private static final class Texts {
        final byte[][] cells;
        final int[] sizes;

        Texts() {
            cells = new byte[MOST_TEXTS][TEXT_PLACES];
            sizes = new int[MOST_TEXTS];
            Arrays.fill(sizes, MISSING);
        }

        boolean isMissing(int t) {
            return sizes[t] == MISSING;
        }

        void renew(int t, int n) {
            Arrays.fill(cells[t], (byte) BLANK);
            sizes[t] = n;
        }

        int firstFault(int t) {
            int mates = 0;
            int i = 0;
            while (i < sizes[t]) {
                if (cells[t][i] == BLANK) {
                    i++;
                } else if (mates == MOST_MATES || kindOf(cells[t][i]) == NONE) {
                    return i;
                } else if (!isFigure(t, i + 1)) {
                    return i + 1;
                } else if (!isFigure(t, i + 2)) {
                    return i + 2;
                } else {
                    mates++;
                    i += 3;
                }
            }
            return NONE;
        }

        private boolean isFigure(int t, int i) {
            return i < sizes[t] && cells[t][i] >= FIGURE_0 && cells[t][i] <= FIGURE_9;
        }

        long mixAll(long start) {
            long h = start;
            for (int t = 0; t < MOST_TEXTS; t++) {
                h = 31 * h + sizes[t];
                for (int i = 0; i < sizes[t]; i++) {
                    h = 31 * h + cells[t][i];
                }
            }
            return h;
        }
    }

    /** The mates, the rules and the years; room for the years that a run adds, too. */
    private static final class Office {
        final int[] kinds;
        final int[] tables;
        final int[] worths;
        final int[] years;
        int size;
        int yearCount;
        int rules;

        Office() {
            kinds = new int[MOST_MATES];
            tables = new int[MOST_MATES];
            worths = new int[MOST_MATES];
            years = new int[MOST_YEARS + MOST_RUN];
            rules = FIRST_RULES;
        }

        /** Mates by a text that has no fault. */
        void settle(byte[] letters, int length) {
            size = 0;
            yearCount = 0;
            int i = 0;
            while (i + 2 < length && size < MOST_MATES) {
                if (letters[i] == BLANK) {
                    i++;
                } else {
                    kinds[size] = kindOf(letters[i]);
                    tables[size] = letters[i + 1] - FIGURE_0;
                    worths[size] = letters[i + 2] - FIGURE_0;
                    size++;
                    i += 3;
                }
            }
        }

        void become(Office other) {
            System.arraycopy(other.kinds, 0, kinds, 0, MOST_MATES);
            System.arraycopy(other.tables, 0, tables, 0, MOST_MATES);
            System.arraycopy(other.worths, 0, worths, 0, MOST_MATES);
            System.arraycopy(other.years, 0, years, 0, years.length);
            size = other.size;
            yearCount = other.yearCount;
            rules = other.rules;
        }

        void addYear(int code) {
            if (yearCount < years.length) {
                years[yearCount] = code;
                yearCount++;
            }
        }

        boolean hadYear(int code) {
            for (int k = 0; k < yearCount; k++) {
                if (years[k] == code) {
                    return true;
                }
            }
            return false;
        }

        int latest(int x) {
            return yearCount == 0 ? NONE : paper(years[yearCount - 1], x);
        }

        int fact(int x, int what) {
            switch (what) {
                case 0:
                    return kinds[x];
                case 1:
                    return tables[x];
                case 2:
                    return worths[x];
                default:
                    return latest(x);
            }
        }

        private boolean isFor(int rule) {
            return (rules & rule) != 0;
        }

        /** By what one is barred from drawing another (BY_NONE: by nothing). */
        int barrier(int x, int y) {
            if (x == y) {
                return BY_SELF;
            }
            boolean near = tables[x] == tables[y];
            if (near && (isOf(kinds[y], BOSS) || kinds[x] == PORTER)) {
                return BY_KINDS;
            }
            if (kinds[y] == SHY && worths[x] > worths[y]) {
                return BY_KINDS;
            }
            if (near && isFor(RULE_TABLES)) {
                return BY_TABLES;
            }
            if (isFor(RULE_YEARS) && !isOf(kinds[x], NEW) && latest(x) == y) {
                return BY_YEARS;
            }
            return BY_NONE;
        }

        int open(int x) {
            int set = 0;
            for (int y = 0; y < size; y++) {
                if (barrier(x, y) == BY_NONE) {
                    set |= 1 << y;
                }
            }
            return set;
        }

        private boolean minds(int x, int y) {
            return isFor(RULE_BACK) && kinds[x] != CASHIER && kinds[y] != CASHIER;
        }

        /** It is against BACK that the next draws one, where those ahead drew as the code says. */
        boolean drawsBack(int next, int y, int code) {
            return y < next && paper(code, y) == next && minds(next, y);
        }

        /** By what one's paper in a whole drawing is against it, the ring left aside. */
        int against(int x, int code) {
            int y = paper(code, x);
            int why = barrier(x, y);
            if (why == BY_NONE && paper(code, y) == x && minds(x, y)) {
                return BY_BACK;
            }
            return why;
        }

        boolean breaksRing(int code) {
            return isFor(RULE_RING) && size > 0 && Integer.bitCount(ringOf(code, 0)) < size;
        }

        int othersAtTable(int x) {
            int sum = 0;
            for (int y = 0; y < size; y++) {
                if (y != x && tables[y] == tables[x]) {
                    sum++;
                }
            }
            return sum;
        }

        int yearsPaired(int x) {
            int sum = 0;
            for (int k = 0; k < yearCount; k++) {
                if (paper(years[k], paper(years[k], x)) == x) {
                    sum++;
                }
            }
            return sum;
        }

        int worthier(int x) {
            int sum = 0;
            for (int y = 0; y < size; y++) {
                if (worths[y] > worths[x]) {
                    sum++;
                }
            }
            return sum;
        }

        int othersBarredFrom(int x) {
            int sum = 0;
            for (int y = 0; y < size; y++) {
                if (y != x && barrier(y, x) != BY_NONE) {
                    sum++;
                }
            }
            return sum;
        }

        int howManyOf(int kind) {
            int sum = 0;
            for (int x = 0; x < size; x++) {
                if (isOf(kinds[x], kind)) {
                    sum++;
                }
            }
            return sum;
        }

        /** As every present is somebody's given and another's got, going by givers sees all. */
        int greatestDifference(int code) {
            int most = 0;
            for (int giver = 0; giver < size; giver++) {
                most = Math.max(most, Math.abs(worths[giver] - worths[paper(code, giver)]));
            }
            return most;
        }
    }

    /** The right drawings of an office, in their order. */
    private static final class Search {
        final int[] codes;
        int found;
        private final int[] open;
        private int wanted;
        private boolean newOnly;

        Search() {
            codes = new int[MOST_RIGHT];
            open = new int[MOST_MATES];
        }

        /** Lists the first ones, as many as are wanted; perhaps those alone that no year had. */
        int list(Office office, int most, boolean noYears) {
            found = 0;
            wanted = Math.min(most, MOST_RIGHT);
            newOnly = noYears;
            for (int x = 0; x < office.size; x++) {
                open[x] = office.open(x);
            }
            extend(this, office, 0, 0, 0);
            return found;
        }

        private static void extend(Search list, Office office, int x, int taken, int code) {
            if (x >= office.size || x >= MOST_MATES) {
                if (list.found < list.wanted && !office.breaksRing(code) && !(list.newOnly && office.hadYear(code))) {
                    list.codes[list.found] = code;
                    list.found++;
                }
                return;
            }
            int free = list.open[x] & ~taken;
            for (int y = 0; y < office.size && list.found < list.wanted; y++) {
                if ((free >> y & 1) != 0 && !office.drawsBack(x, y, code)) {
                    extend(list, office, x + 1, taken | 1 << y, code | y << 3 * x);
                }
            }
        }

        boolean fitsAt(int i, int code, int mask) {
            return ((codes[i] ^ code) & mask) == 0;
        }

        int fitting(int code, int mask) {
            int sum = 0;
            for (int i = 0; i < found; i++) {
                if (fitsAt(i, code, mask)) {
                    sum++;
                }
            }
            return sum;
        }

        /** The first that is alike where the mask says. */
        int placeOf(int code, int mask) {
            for (int i = 0; i < found; i++) {
                if (fitsAt(i, code, mask)) {
                    return i;
                }
            }
            return NONE;
        }

        /** Bits where some of those that fit are not as the code is. */
        int differing(int code, int mask) {
            int unlike = 0;
            for (int i = 0; i < found; i++) {
                if (fitsAt(i, code, mask)) {
                    unlike |= codes[i] ^ code;
                }
            }
            return unlike;
        }

        /** How much of the WHOLE falls, by turns from a hat on, on drawings in which who draws whom. */
        int shareByTurns(int hat, int drawn, int who, int whom) {
            int mask = firstOnes(drawn);
            int from = placeOf(hat, mask);
            if (from == NONE) {
                return 0;
            }
            // the list goes by first numbers: those that begin alike stand side by side
            return shareOf(codes, from, from + fitting(hat, mask), drawn, who, whom, WHOLE);
        }

        private static int shareOf(int[] codes, int from, int to, int x, int who, int whom, int weight) {
            if (x > who || x >= MOST_MATES) {
                return 0;
            }
            int parts = partsAt(codes, from, to, x);
            if (parts == 0) {
                return 0;
            }
            int each = weight / parts;
            int sum = 0;
            int start = from;
            for (int i = from + 1; i <= to; i++) {
                if (i == to || paper(codes[i], x) != paper(codes[start], x)) {
                    if (x < who) {
                        sum += shareOf(codes, start, i, x + 1, who, whom, each);
                    } else if (paper(codes[start], x) == whom) {
                        sum += each;
                    }
                    start = i;
                }
            }
            return sum;
        }

        private static int partsAt(int[] codes, int from, int to, int x) {
            int parts = 0;
            for (int i = from; i < to; i++) {
                if (i == from || paper(codes[i], x) != paper(codes[i - 1], x)) {
                    parts++;
                }
            }
            return parts;
        }
    }
}
