import java.math.BigInteger;
import java.util.ArrayList;
import java.util.List;

/**
 * The document in its plainest form, for comparison: every question about
 * drawings is answered by going through all orders of the mates anew.
 */
final class Model {
    static final int BAD = -1, FULL = -2, FINDING = -3, STATE = -4, NONE = -9;
    static final int NOTHING = 1, BEYOND = 2, UNLIKE = 3, NOUGHT = 4, SIZE = 5;

    private final int[][] rows = new int[6][];
    private final byte[][] texts = new byte[4][];
    private String kinds = "";
    private int[] tables = new int[0];
    private int[] worths = new int[0];
    private int rules = 7;
    private List<int[]> years = new ArrayList<>();
    private List<Integer> hat = new ArrayList<>();
    private final List<List<Integer>> kept = new ArrayList<>(java.util.Arrays.asList(null, null, null));
    private final int[] keptRules = new int[3];
    int asked = 0;
    BigInteger upper = BigInteger.ZERO;
    BigInteger lower = BigInteger.ONE;
    int finding = 0;
    final int[] findings = new int[6];

    // ---- helpers

    int n() {
        return kinds.length();
    }

    private int find(int f) {
        finding = f;
        findings[f]++;
        return FINDING;
    }

    private boolean noMate(int x) {
        return x < 0 || x >= n();
    }

    private static boolean noRow(int r) {
        return r < 0 || r > 5;
    }

    private static boolean noText(int t) {
        return t < 0 || t > 3;
    }

    private boolean isBoss(int x) {
        return "bp".indexOf(kinds.charAt(x)) >= 0;
    }

    private boolean isNew(int x) {
        return "nc".indexOf(kinds.charAt(x)) >= 0;
    }

    private boolean isCashier(int x) {
        return kinds.charAt(x) == 'c';
    }

    private boolean byKinds(int x, int y, int[] tab) {
        if (isBoss(y) && tab[x] == tab[y]) return true;
        if (kinds.charAt(y) == 's' && worths[x] > worths[y]) return true;
        return kinds.charAt(x) == 'p' && tab[x] == tab[y];
    }

    private boolean byYears(int x, int y, List<int[]> ys) {
        return !isNew(x) && !ys.isEmpty() && ys.get(ys.size() - 1)[x] == y;
    }

    private boolean barred(int x, int y, int ru, int[] tab, List<int[]> ys) {
        return x == y || byKinds(x, y, tab) || (ru & 4) != 0 && tab[x] == tab[y] || (ru & 2) != 0 && byYears(x, y, ys);
    }

    private boolean barred(int x, int y) {
        return barred(x, y, rules, tables, years);
    }

    private boolean isRight(int[] d, int ru, int[] tab, List<int[]> ys) {
        for (int x = 0; x < d.length; x++) {
            if (barred(x, d[x], ru, tab, ys)) return false;
            if ((ru & 1) != 0 && d[d[x]] == x && !isCashier(x) && !isCashier(d[x])) return false;
        }
        return (ru & 8) == 0 || d.length == 0 || ringLength(d) == d.length;
    }

    private static int ringLength(int[] d) {
        int length = 1;
        for (int y = d[0]; y != 0; y = d[y]) length++;
        return length;
    }

    private static int ringCount(int[] d) {
        int sum = 0;
        for (int x = 0; x < d.length; x++) {
            boolean least = true;
            for (int y = d[x]; y != x; y = d[y]) least &= y > x;
            if (least) sum++;
        }
        return sum;
    }

    private List<int[]> all(int ru, int[] tab, List<int[]> ys) {
        List<int[]> out = new ArrayList<>();
        orders(new int[n()], 0, out);
        out.removeIf(d -> !isRight(d, ru, tab, ys));
        return out;
    }

    private List<int[]> all() {
        return all(rules, tables, years);
    }

    private void orders(int[] d, int i, List<int[]> out) {
        if (i == d.length) {
            out.add(d.clone());
            return;
        }
        for (int v = 0; v < d.length; v++) {
            boolean free = true;
            for (int k = 0; k < i; k++) free &= d[k] != v;
            if (free) {
                d[i] = v;
                orders(d, i + 1, out);
            }
        }
    }

    /** 0, or the finding that says why the row is no drawing. */
    private int noDrawing(int r) {
        if (rows[r] == null) return NOTHING;
        if (rows[r].length != n()) return SIZE;
        for (int i = 0; i < n(); i++) {
            if (noMate(rows[r][i])) return UNLIKE;
            for (int k = 0; k < i; k++) if (rows[r][k] == rows[r][i]) return UNLIKE;
        }
        return 0;
    }

    private int noRightDrawing(int r) {
        int f = noDrawing(r);
        return f != 0 ? f : isRight(rows[r], rules, tables, years) ? 0 : UNLIKE;
    }

    private static boolean begins(int[] d, List<Integer> so) {
        for (int i = 0; i < so.size(); i++) if (d[i] != so.get(i)) return false;
        return true;
    }

    private List<int[]> beginning(List<Integer> so) {
        List<int[]> out = all();
        out.removeIf(d -> !begins(d, so));
        return out;
    }

    private List<Integer> open(List<Integer> so) {
        List<Integer> out = new ArrayList<>();
        if (so.size() == n()) return out;
        for (int[] d : beginning(so)) if (!out.contains(d[so.size()])) out.add(d[so.size()]);
        return out;
    }

    private void tell(BigInteger up, BigInteger low) {
        BigInteger g = up.gcd(low);
        upper = up.divide(g);
        lower = low.divide(g);
    }

    private static long next(long lot) {
        return lot * 48271L % 2147483647L;
    }

    // ---- 1

    int row(int r, int n) {
        if (noRow(r) || n > 40) return BAD;
        if (n < 0) return find(SIZE);
        rows[r] = new int[n];
        return n;
    }

    int lay(int r, int i, int v) {
        int a = at(r, i);
        if (a == 1) rows[r][i] = v;
        return a;
    }

    int at(int r, int i) {
        if (noRow(r)) return BAD;
        if (rows[r] == null) return find(NOTHING);
        if (i < 0 || i >= rows[r].length) return find(BEYOND);
        asked = rows[r][i];
        return 1;
    }

    int tear(int r) {
        if (noRow(r)) return BAD;
        if (rows[r] == null) return find(NOTHING);
        rows[r] = null;
        return 1;
    }

    int copy(int r, int i, int to, int j, int n) {
        if (noRow(r) || noRow(to)) return BAD;
        if (n < 0) return find(SIZE);
        if (rows[r] == null || rows[to] == null) return find(NOTHING);
        if (i < 0 || j < 0 || (long) i + n > rows[r].length || (long) j + n > rows[to].length) return find(BEYOND);
        int[] taken = rows[r].clone();
        for (int k = 0; k < n; k++) rows[to][j + k] = taken[i + k];
        return 1;
    }

    int mean(int r) {
        if (noRow(r)) return BAD;
        if (rows[r] == null) return find(NOTHING);
        if (rows[r].length == 0) return find(NOUGHT);
        BigInteger sum = BigInteger.ZERO;
        for (int v : rows[r]) sum = sum.add(BigInteger.valueOf(v));
        asked = sum.divide(BigInteger.valueOf(rows[r].length)).intValueExact();
        return 1;
    }

    int text(int t, int n) {
        if (noText(t) || n > 60) return BAD;
        if (n < 0) return find(SIZE);
        texts[t] = " ".repeat(n).getBytes();
        return n;
    }

    int put(int t, int i, int v) {
        if (noText(t)) return BAD;
        if (texts[t] == null) return find(NOTHING);
        if (i < 0 || i >= texts[t].length) return find(BEYOND);
        int was = texts[t][i];
        texts[t][i] = (byte) v;
        return was + 1000;
    }

    /** Place by place, by what is wanted there: 0 a letter or a blank, 1 the table, 2 the worth. */
    private int faultOf(byte[] text) {
        int want = 0;
        int mates = 0;
        for (int i = 0; i < text.length; i++) {
            char c = (char) (text[i] & 255);
            if (want == 0) {
                if (c == ' ') continue;
                if ("mbnscp".indexOf(c) < 0 || mates == 6) return i;
                mates++;
            } else if (c < '0' || c > '9') {
                return i;
            }
            want = (want + 1) % 3;
        }
        return want == 0 ? NONE : text.length;
    }

    int fault(int t) {
        if (noText(t)) return BAD;
        return texts[t] == null ? find(NOTHING) : faultOf(texts[t]);
    }

    int office(int t) {
        if (noText(t)) return BAD;
        if (texts[t] == null) return find(NOTHING);
        if (faultOf(texts[t]) != NONE) return STATE;
        StringBuilder items = new StringBuilder();
        for (byte b : texts[t]) if (b != 32) items.append((char) b);
        int n = items.length() / 3;
        kinds = "";
        tables = new int[n];
        worths = new int[n];
        for (int x = 0; x < n; x++) {
            kinds += items.charAt(3 * x);
            tables[x] = items.charAt(3 * x + 1) - '0';
            worths[x] = items.charAt(3 * x + 2) - '0';
        }
        years = new ArrayList<>();
        hat = new ArrayList<>();
        for (int k = 0; k < 3; k++) kept.set(k, null);
        return n;
    }

    private int fact(int x, int what) {
        if (what == 0) return "mbnscp".indexOf(kinds.charAt(x));
        if (what == 1) return tables[x];
        if (what == 2) return worths[x];
        return years.isEmpty() ? NONE : years.get(years.size() - 1)[x];
    }

    int mate(int x, int what) {
        if (noMate(x) || what < 0 || what > 3) return BAD;
        asked = fact(x, what);
        return 1;
    }

    int mark(int x, int kind) {
        if (noMate(x) || kind < 1 || kind > 5) return BAD;
        boolean is = kind == 1 ? isBoss(x) : kind == 2 ? isNew(x) : kind == fact(x, 0);
        if (!is) return find(UNLIKE);
        int sum = 0;
        if (kind == 2) {
            for (int[] d : years) for (int y = 0; y < n(); y++) if (d[x] == y && d[y] == x) sum++;
            return sum;
        }
        for (int y = 0; y < n(); y++) {
            if (kind == 1 && y != x && tables[x] == tables[y]) sum++;
            if (kind == 3 && worths[y] > worths[x]) sum++;
            if (kind == 4 && !barred(x, y)) sum++;
            if (kind == 5 && y != x && barred(y, x)) sum++;
        }
        return sum;
    }

    int rules(int v) {
        if (v < 0 || v > 15) return BAD;
        int was = rules;
        rules = v;
        return was;
    }

    int move(int x, int table) {
        if (noMate(x) || table < 0 || table > 9) return BAD;
        int was = tables[x];
        tables[x] = table;
        return was;
    }

    int may(int x) {
        if (noMate(x)) return BAD;
        int bits = 0;
        for (int y = 0; y < n(); y++) if (!barred(x, y)) bits += 1 << y;
        return bits;
    }

    // ---- 2

    int judge(int r) {
        if (noRow(r)) return BAD;
        int f = noDrawing(r);
        if (f != 0) return find(f);
        int[] d = rows[r];
        for (int x = 0; x < n(); x++) {
            int y = d[x];
            int why = 0;
            if (y == x) why = 1;
            else if (byKinds(x, y, tables)) why = 2;
            else if ((rules & 4) != 0 && tables[x] == tables[y]) why = 3;
            else if ((rules & 2) != 0 && byYears(x, y, years)) why = 4;
            else if ((rules & 1) != 0 && d[y] == x && !isCashier(x) && !isCashier(y)) why = 5;
            if (why != 0) {
                asked = why;
                return x;
            }
        }
        if ((rules & 8) != 0 && n() > 0 && ringLength(d) < n()) {
            asked = 6;
            return 0;
        }
        asked = 0;
        return n();
    }

    int ways() {
        return all().size();
    }

    int nth(int i, int r) {
        if (i < 0 || noRow(r)) return BAD;
        List<int[]> ds = all();
        if (i >= ds.size()) return find(NOUGHT);
        rows[r] = ds.get(i).clone();
        return 1;
    }

    int number(int r) {
        if (noRow(r)) return BAD;
        int f = noDrawing(r);
        if (f != 0) return find(f);
        List<int[]> ds = all();
        for (int i = 0; i < ds.size(); i++) if (java.util.Arrays.equals(ds.get(i), rows[r])) return i;
        return NONE;
    }

    int lot(int seed, int r) {
        if (seed < 1 || seed == Integer.MAX_VALUE || noRow(r)) return BAD;
        List<int[]> ds = all();
        if (ds.isEmpty()) return find(NOUGHT);
        int i = (int) (next(seed) % ds.size());
        rows[r] = ds.get(i).clone();
        return i;
    }

    // ---- 3

    int draw(int x) {
        if (noMate(x)) return BAD;
        int p = hat.size();
        if (p == n() || hat.contains(x) || barred(p, x)) return STATE;
        if ((rules & 1) != 0 && x < p && hat.get(x) == p && !isCashier(p) && !isCashier(x)) return STATE;
        hat.add(x);
        return p + 1;
    }

    int undo(int n) {
        if (n < 0 || n > hat.size()) return BAD;
        int gone = hat.size() - n;
        hat = new ArrayList<>(hat.subList(0, n));
        return gone;
    }

    int drew(int x) {
        if (noMate(x)) return BAD;
        return x < hat.size() ? hat.get(x) : NONE;
    }

    int can() {
        asked = beginning(hat).size();
        int bits = 0;
        for (int y : open(hat)) bits += 1 << y;
        return bits;
    }

    /** The odds as an upper number over 60 to the power of 6. */
    private BigInteger odds(List<Integer> so, int x, int y, BigInteger weight) {
        if (so.size() > x) return so.get(x) == y ? weight : BigInteger.ZERO;
        List<Integer> choices = open(so);
        BigInteger sum = BigInteger.ZERO;
        for (int c : choices) {
            List<Integer> more = new ArrayList<>(so);
            more.add(c);
            sum = sum.add(odds(more, x, y, weight.divide(BigInteger.valueOf(choices.size()))));
        }
        return sum;
    }

    int turns(int x, int y) {
        if (noMate(x) || noMate(y)) return BAD;
        if (beginning(hat).isEmpty()) return find(NOUGHT);
        BigInteger whole = BigInteger.valueOf(60).pow(6);
        tell(odds(hat, x, y, whole), whole);
        return 1;
    }

    int alike(int x, int y) {
        if (noMate(x) || noMate(y)) return BAD;
        List<int[]> ds = beginning(hat);
        if (ds.isEmpty()) return find(NOUGHT);
        tell(BigInteger.valueOf(ds.stream().filter(d -> d[x] == y).count()), BigInteger.valueOf(ds.size()));
        return 1;
    }

    int play(int seed) {
        if (seed < 1 || seed == Integer.MAX_VALUE) return BAD;
        long lot = seed;
        while (hat.size() < n()) {
            List<Integer> choices = open(hat);
            if (choices.isEmpty()) break;
            java.util.Collections.sort(choices);
            lot = next(lot);
            hat.add(choices.get((int) (lot % choices.size())));
        }
        return hat.size();
    }

    int keep(int k) {
        if (k < 0 || k > 2) return BAD;
        if (n() == 0) return STATE;
        kept.set(k, new ArrayList<>(hat));
        keptRules[k] = rules;
        return hat.size();
    }

    int on(int k) {
        if (k < 0 || k > 2) return BAD;
        if (kept.get(k) == null) return find(NOTHING);
        hat = new ArrayList<>(kept.get(k));
        rules = keptRules[k];
        return hat.size();
    }

    // ---- 4

    int year(int r) {
        if (noRow(r)) return BAD;
        if (years.size() == 12) return FULL;
        if (n() == 0) return STATE;
        int f = noDrawing(r);
        if (f != 0) return find(f);
        years.add(rows[r].clone());
        return years.size() - 1;
    }

    int forget(int n) {
        if (n < 0 || n > years.size()) return BAD;
        int gone = years.size() - n;
        years = new ArrayList<>(years.subList(0, n));
        return gone;
    }

    int run() {
        if (n() == 0) return 0;
        List<int[]> ys = new ArrayList<>(years);
        for (int k = 0; k < 30; k++) {
            List<int[]> ds = all(rules, tables, ys);
            ds.removeIf(d -> ys.stream().anyMatch(y -> java.util.Arrays.equals(d, y)));
            if (ds.isEmpty()) return k;
            ys.add(ds.get(0));
        }
        return 30;
    }

    int times(int x, int y) {
        if (noMate(x) || noMate(y) || x == y) return BAD;
        return (int) years.stream().filter(d -> d[x] == y).count();
    }

    // ---- 5

    private boolean noSet(int set) {
        return set < 0 || set >> n() != 0;
    }

    private List<int[]> fitting(int[] d, int set) {
        List<int[]> ds = all();
        for (int x = 0; x < n(); x++) {
            int who = x;
            if ((set & 1 << x) != 0) ds.removeIf(e -> e[who] != d[who]);
        }
        return ds;
    }

    int fits(int r, int set) {
        if (noRow(r) || noSet(set)) return BAD;
        int f = noRightDrawing(r);
        return f != 0 ? find(f) : fitting(rows[r], set).size();
    }

    int known(int r, int set) {
        if (noRow(r) || noSet(set)) return BAD;
        int f = noRightDrawing(r);
        if (f != 0) return find(f);
        int bits = 0;
        for (int x = 0; x < n(); x++) {
            int who = x;
            boolean sure = fitting(rows[r], set).stream().allMatch(e -> e[who] == rows[r][who]);
            if (sure && (set & 1 << x) == 0) bits += 1 << x;
        }
        return bits;
    }

    int still(int r, int set) {
        if (noRow(r) || noSet(set)) return BAD;
        int f = noRightDrawing(r);
        if (f != 0) return find(f);
        if (set == 0) return NONE;
        int best = NONE;
        for (int x = n() - 1; x >= 0; x--) {
            if ((set & 1 << x) == 0) continue;
            int fit = fitting(rows[r], set - (1 << x)).size();
            if (best == NONE || fit >= asked) {
                best = x;
                asked = fit;
            }
        }
        return best;
    }

    int fewest(int r) {
        if (noRow(r)) return BAD;
        int f = noRightDrawing(r);
        if (f != 0) return find(f);
        for (int k = 0; k <= n(); k++) {
            for (int set = 0; set < 1 << n(); set++) {
                if (Integer.bitCount(set) == k && fitting(rows[r], set).size() == 1) {
                    asked = set;
                    return k;
                }
            }
        }
        throw new IllegalStateException("all who tell leave one drawing");
    }

    // ---- 6

    int drop() {
        for (int k = 0; k <= 4; k++) {
            for (int left = 15; left >= 0; left--) {
                boolean part = (left | rules) == rules && Integer.bitCount(rules) - Integer.bitCount(left) == k;
                if (part && !all(left, tables, years).isEmpty()) {
                    asked = left;
                    return k;
                }
            }
        }
        return NONE;
    }

    int table(int x) {
        if (noMate(x)) return BAD;
        int best = -1;
        int most = -1;
        for (int t = 0; t < 10; t++) {
            int[] tab = tables.clone();
            tab[x] = t;
            int found = all(rules, tab, years).size();
            if (found > most) {
                most = found;
                best = t;
            }
        }
        asked = most;
        return best;
    }

    int rings(int r) {
        if (noRow(r)) return BAD;
        int f = noDrawing(r);
        if (f != 0) return find(f);
        asked = n() == 0 ? 0 : ringLength(rows[r]);
        return ringCount(rows[r]);
    }

    int ringed(int k) {
        if (k < 0 || k > 6) return BAD;
        List<int[]> ds = all();
        if (ds.isEmpty()) return find(NOUGHT);
        long so = ds.stream().filter(d -> ringCount(d) == k).count();
        tell(BigInteger.valueOf(so), BigInteger.valueOf(ds.size()));
        return (int) so;
    }

    private int gift(int[] d, int x) {
        for (int g = 0; g < n(); g++) if (d[g] == x) return worths[g];
        throw new IllegalStateException("somebody draws each");
    }

    int even(int r) {
        if (noRow(r)) return BAD;
        int[] best = null;
        int least = 0;
        for (int[] d : all()) {
            int most = 0;
            for (int x = 0; x < n(); x++) most = Math.max(most, Math.abs(gift(d, x) - worths[x]));
            if (best == null || most < least) {
                best = d;
                least = most;
            }
        }
        if (best == null) return NONE;
        rows[r] = best.clone();
        return least;
    }

    int gain(int r, int x) {
        if (noRow(r) || noMate(x)) return BAD;
        int f = noDrawing(r);
        if (f != 0) return find(f);
        asked = gift(rows[r], x) - worths[x];
        return 1;
    }

    // ---- 7

    int count(int what) {
        int sum = 0;
        switch (what) {
            case 0: return n();
            case 1: return hat.size();
            case 2: return years.size();
            case 3:
                for (int x = 0; x < n(); x++) if (isBoss(x)) sum++;
                return sum;
            case 4:
                for (int x = 0; x < n(); x++) if (isNew(x)) sum++;
                return sum;
            case 5:
                for (List<Integer> h : kept) if (h != null) sum++;
                return sum;
            case 6:
                for (int[] r : rows) if (r != null) sum++;
                return sum;
            case 7:
                for (byte[] t : texts) if (t != null) sum++;
                return sum;
            default: return BAD;
        }
    }

    int findings(int f) {
        return f < 1 || f > 5 ? BAD : findings[f];
    }

    long digest() {
        List<Integer> vs = new ArrayList<>();
        for (int what = 0; what < 8; what++) vs.add(count(what));
        vs.add(rules);
        for (int x = 0; x < n(); x++) for (int what = 0; what < 4; what++) vs.add(fact(x, what));
        vs.addAll(hat);
        for (int[] d : years) for (int y : d) vs.add(y);
        for (List<Integer> h : kept) vs.add(h == null ? -1 : h.size());
        for (int[] r : rows) {
            vs.add(r == null ? -1 : r.length);
            if (r != null) for (int v : r) vs.add(v);
        }
        for (byte[] t : texts) {
            vs.add(t == null ? -1 : t.length);
            if (t != null) for (byte b : t) vs.add((int) b);
        }
        long h = 17;
        for (int v : vs) h = 31 * h + v;
        return h;
    }
}
