import java.util.Random;

/** Long runs of calls, sound and unsound, answered by the class and by the plain model alike. */
public final class ModelTest {
    private static final int RUNS = 400;
    private static final int CALLS = 400;
    private static final String[] NAMES = {
        "row", "lay", "at", "tear", "copy", "mean", "text", "put", "fault", "office", "mate", "mark", "rules", "move",
        "may", "judge", "ways", "nth", "number", "lot", "draw", "undo", "drew", "can", "turns", "alike", "play", "keep",
        "on", "year", "forget", "run", "times", "fits", "known", "still", "fewest", "drop", "table", "rings", "ringed",
        "even", "gain", "count", "findings"};

    private final Random random;
    private final HatDraw h = new HatDraw();
    private final Model m = new Model();

    private ModelTest(long seed) {
        random = new Random(seed);
    }

    public static void main(String[] args) {
        int[] sound = new int[NAMES.length];
        for (int run = 0; run < RUNS; run++) {
            ModelTest test = new ModelTest(run);
            for (int k = 0; k < CALLS; k++) {
                test.step(run, sound);
            }
        }
        for (int k = 0; k < NAMES.length; k++) {
            Due.is("sound calls of " + NAMES[k] + " were there", sound[k] > 50 ? 1 : 0, 1);
        }
        Due.end();
    }

    private void step(int run, int[] sound) {
        int dice = random.nextInt(100);
        if (dice < 2) {
            newOffice();
            return;
        }
        if (dice < 8) {
            layDrawing();
            return;
        }
        int name = random.nextInt(NAMES.length);
        // an office anew forgets all: seldom, so that years and hats come to something
        if (NAMES[name].equals("office") && random.nextInt(4) != 0) {
            return;
        }
        int got = call(name);
        if (got >= 0) {
            sound[name]++;
        }
        look(run, NAMES[name]);
    }

    private void look(int run, String name) {
        String where = "run " + run + ", after " + name;
        Due.is(where + ": asked", h.asked(), m.asked);
        Due.is(where + ": upper", h.upper(), m.upper.longValueExact());
        Due.is(where + ": lower", h.lower(), m.lower.longValueExact());
        Due.is(where + ": finding", h.finding(), m.finding);
        Due.is(where + ": digest", h.digest(), m.digest());
    }

    private void newOffice() {
        StringBuilder letters = new StringBuilder();
        int mates = random.nextInt(8);
        // few tables and plain mates: else most offices have no right drawing at all
        int tables = 1 + random.nextInt(6);
        for (int x = 0; x < mates; x++) {
            letters.append(" ".repeat(random.nextInt(3)));
            letters.append("mmmbnscp".charAt(random.nextInt(8)));
            letters.append(random.nextInt(tables)).append(random.nextInt(10));
        }
        letters.append(" ".repeat(random.nextInt(3)));
        if (random.nextInt(8) == 0 && letters.length() > 0) {
            letters.setCharAt(random.nextInt(letters.length()), (char) (32 + random.nextInt(100)));
        }
        if (random.nextInt(8) == 0 && letters.length() > 0) {
            letters.setLength(random.nextInt(letters.length()));
        }
        int t = random.nextInt(4);
        Due.is("text", h.text(t, letters.length()), m.text(t, letters.length()));
        for (int i = 0; i < letters.length(); i++) {
            Due.is("put", h.put(t, i, letters.charAt(i)), m.put(t, i, letters.charAt(i)));
        }
        Due.is("fault of '" + letters + "'", h.fault(t), m.fault(t));
        Due.is("office '" + letters + "'", h.office(t), m.office(t));
    }

    private void layDrawing() {
        int r = random.nextInt(6);
        int n = m.n();
        Due.is("row", h.row(r, n), m.row(r, n));
        int[] d = new int[n];
        for (int x = 0; x < n; x++) {
            d[x] = x;
        }
        for (int x = n - 1; x > 0; x--) {
            int y = random.nextInt(x + 1);
            int v = d[x];
            d[x] = d[y];
            d[y] = v;
        }
        for (int x = 0; x < n; x++) {
            Due.is("lay", h.lay(r, x, d[x]), m.lay(r, x, d[x]));
        }
    }

    private int one(int least, int most) {
        int dice = random.nextInt(60);
        if (dice == 0) {
            return least - 1;
        }
        if (dice == 1) {
            return most + 1;
        }
        if (dice == 2) {
            return random.nextInt();
        }
        return most < least ? least : least + random.nextInt(most - least + 1);
    }

    private int rowNumber() {
        return random.nextInt(30) == 0 ? one(-1, 6) : random.nextInt(6);
    }

    private int mateNumber() {
        return one(0, m.n() - 1);
    }

    private int setNumber() {
        return one(0, (1 << m.n()) - 1);
    }

    private int seed() {
        int[] edges = {0, 1, -1, 2147483646, 2147483647, -2147483648};
        return random.nextInt(8) == 0 ? edges[random.nextInt(edges.length)] : 1 + random.nextInt(2147483646);
    }

    private int same(String call, int got, int want) {
        Due.is(call, got, want);
        return got;
    }

    private int call(int name) {
        int r = rowNumber();
        int x = mateNumber();
        int y = mateNumber();
        int set = setNumber();
        int seed = seed();
        int a;
        int b;
        int c;
        switch (NAMES[name]) {
            case "row":
                a = random.nextInt(3) == 0 ? one(0, 40) : m.n();
                return same("row " + r + " " + a, h.row(r, a), m.row(r, a));
            case "lay":
                a = one(0, 7);
                b = random.nextInt(9) == 0 ? random.nextInt() : one(0, m.n());
                return same("lay " + r + " " + a + " " + b, h.lay(r, a, b), m.lay(r, a, b));
            case "at":
                a = one(0, 7);
                return same("at " + r + " " + a, h.at(r, a), m.at(r, a));
            case "tear":
                return same("tear " + r, h.tear(r), m.tear(r));
            case "copy":
                a = one(0, 4);
                b = one(0, 4);
                c = one(0, 4);
                int to = rowNumber();
                return same("copy", h.copy(r, a, to, b, c), m.copy(r, a, to, b, c));
            case "mean":
                return same("mean " + r, h.mean(r), m.mean(r));
            case "text":
                a = one(0, 3);
                b = one(0, 60);
                return same("text " + a + " " + b, h.text(a, b), m.text(a, b));
            case "put":
                a = one(0, 3);
                b = one(0, 20);
                c = random.nextInt();
                return same("put " + a + " " + b + " " + c, h.put(a, b, c), m.put(a, b, c));
            case "fault":
                a = one(0, 3);
                return same("fault " + a, h.fault(a), m.fault(a));
            case "office":
                a = one(0, 3);
                return same("office " + a, h.office(a), m.office(a));
            default:
                return callMore(NAMES[name], r, x, y, set, seed);
        }
    }

    private int callMore(String name, int r, int x, int y, int set, int seed) {
        int a;
        switch (name) {
            case "mate":
                a = one(0, 3);
                return same("mate " + x + " " + a, h.mate(x, a), m.mate(x, a));
            case "mark":
                a = one(1, 5);
                return same("mark " + x + " " + a, h.mark(x, a), m.mark(x, a));
            case "rules":
                a = one(0, 15);
                return same("rules " + a, h.rules(a), m.rules(a));
            case "move":
                a = one(0, 9);
                return same("move " + x + " " + a, h.move(x, a), m.move(x, a));
            case "may":
                return same("may " + x, h.may(x), m.may(x));
            case "judge":
                return same("judge " + r, h.judge(r), m.judge(r));
            case "ways":
                return same("ways", h.ways(), m.ways());
            case "nth":
                a = random.nextInt(5) == 0 ? one(0, 265) : one(0, m.ways() - 1);
                return same("nth " + a + " " + r, h.nth(a, r), m.nth(a, r));
            case "number":
                return same("number " + r, h.number(r), m.number(r));
            case "lot":
                return same("lot " + seed + " " + r, h.lot(seed, r), m.lot(seed, r));
            case "draw":
                return same("draw " + x, h.draw(x), m.draw(x));
            case "undo":
                a = one(0, m.count(1));
                return same("undo " + a, h.undo(a), m.undo(a));
            case "drew":
                return same("drew " + x, h.drew(x), m.drew(x));
            case "can":
                return same("can", h.can(), m.can());
            case "turns":
                return same("turns " + x + " " + y, h.turns(x, y), m.turns(x, y));
            case "alike":
                return same("alike " + x + " " + y, h.alike(x, y), m.alike(x, y));
            case "play":
                return same("play " + seed, h.play(seed), m.play(seed));
            default:
                return callLast(name, r, x, y, set);
        }
    }

    private int callLast(String name, int r, int x, int y, int set) {
        int a = one(0, 2);
        switch (name) {
            case "keep":
                return same("keep " + a, h.keep(a), m.keep(a));
            case "on":
                return same("on " + a, h.on(a), m.on(a));
            case "year":
                return same("year " + r, h.year(r), m.year(r));
            case "forget":
                a = one(0, m.count(2));
                // seldom, so that years come to be many
                if (random.nextInt(3) != 0) {
                    return 0;
                }
                return same("forget " + a, h.forget(a), m.forget(a));
            case "run":
                return same("run", h.run(), m.run());
            case "times":
                return same("times " + x + " " + y, h.times(x, y), m.times(x, y));
            case "fits":
                return same("fits " + r + " " + set, h.fits(r, set), m.fits(r, set));
            case "known":
                return same("known " + r + " " + set, h.known(r, set), m.known(r, set));
            case "still":
                return same("still " + r + " " + set, h.still(r, set), m.still(r, set));
            case "fewest":
                return same("fewest " + r, h.fewest(r), m.fewest(r));
            case "drop":
                return same("drop", h.drop(), m.drop());
            case "table":
                return same("table " + x, h.table(x), m.table(x));
            case "rings":
                return same("rings " + r, h.rings(r), m.rings(r));
            case "ringed":
                a = one(0, 6);
                return same("ringed " + a, h.ringed(a), m.ringed(a));
            case "even":
                return same("even " + r, h.even(r), m.even(r));
            case "gain":
                return same("gain " + r + " " + x, h.gain(r, x), m.gain(r, x));
            case "count":
                a = one(0, 7);
                return same("count " + a, h.count(a), m.count(a));
            default:
                a = one(1, 5);
                return same("findings " + a, h.findings(a), m.findings(a));
        }
    }
}
