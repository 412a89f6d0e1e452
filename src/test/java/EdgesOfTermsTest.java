/** The terms that bind all promises, sentence by sentence: rows, texts, offices, kinds, rules, drawings, papers, lots. */
public final class EdgesOfTermsTest {
    private static final int NOTHING = 1, NOUGHT = 4;

    public static void main(String[] args) throws Exception {
        Sentences.run(EdgesOfTermsTest.class);
    }

    // ---- 1

    @Sentence(promise = 0, says = "ROWS 0 .. 5 are rows of 0 to 40 ints")
    static void rowsOfInts() {
        HatDraw h = new HatDraw();
        for (int r = 0; r <= 5; r++) {
            Due.is("no ints", h.row(r, 0), 0);
            Due.is("forty ints", h.row(r, 40), 40);
            h.lay(r, 39, Integer.MIN_VALUE);
            Due.told("the least int", h, h.lay(r, 39, Integer.MAX_VALUE), Integer.MIN_VALUE);
            Due.told("the greatest int", h, h.at(r, 39), Integer.MAX_VALUE);
        }
        Due.bad("row -1", h, () -> h.row(-1, 1));
        Due.bad("row 6", h, () -> h.row(6, 1));
        Due.bad("forty-one ints", h, () -> h.row(0, 41));
    }

    @Sentence(promise = 0, says = "TEXTS 0 .. 3 rows of 0 to 60 bytes")
    static void textsOfBytes() {
        HatDraw h = new HatDraw();
        for (int t = 0; t <= 3; t++) {
            Due.is("no bytes", h.text(t, 0), 0);
            Due.is("sixty bytes", h.text(t, 60), 60);
            h.put(t, 59, -128);
            Due.is("the least byte", h.put(t, 59, 127), 872);
            Due.is("the greatest byte", h.put(t, 59, 0), 1127);
        }
        Due.bad("text -1", h, () -> h.text(-1, 1));
        Due.bad("text 4", h, () -> h.text(4, 1));
        Due.bad("sixty-one bytes", h, () -> h.text(0, 61));
    }

    @Sentence(promise = 0, says = "or missing (at first).")
    static void missingAtFirst() {
        HatDraw h = new HatDraw();
        for (int r = 0; r <= 5; r++) {
            int row = r;
            Due.finds("row " + r, h, NOTHING, () -> h.at(row, 0));
        }
        for (int t = 0; t <= 3; t++) {
            int text = t;
            Due.finds("text " + t, h, NOTHING, () -> h.fault(text));
        }
    }

    private static void fault(String letters, int due) {
        HatDraw h = new HatDraw();
        Due.write(h, 3, letters);
        Due.is("fault of '" + letters + "'", h.fault(3), due);
        Due.is("office of '" + letters + "' is there", h.office(3) >= 0 ? HatDraw.NONE : h.fault(3), due);
    }

    private static void mates(String letters, int many) {
        fault(letters, HatDraw.NONE);
        HatDraw h = new HatDraw();
        Due.write(h, 0, letters);
        Due.is("mates of '" + letters + "'", h.office(0), many);
    }

    @Sentence(promise = 0, says = "AN OFFICE (without MATES at first) is a TEXT")
    static void noMatesAtFirst() {
        HatDraw h = new HatDraw();
        Due.is("mates", h.count(0), 0);
        Due.bad("mate 0", h, () -> h.may(0));
        Due.write(h, 0, "m11");
        Due.is("a text alone is none yet", h.count(0), 0);
        h.office(0);
        Due.is("mates by it", h.count(0), 1);
    }

    @Sentence(promise = 0, says = "blanks (32) ahead, between, behind as many as wanted")
    static void blanks() {
        mates("  m11", 1);
        mates("m11   m22", 2);
        mates("m11m22", 2);
        mates("m11  ", 1);
        mates("          m11          m22          m33          m44        ", 4);
        mates("                                          m11m22m33m44m55m66", 6);
        fault("\tm11", 0);
        fault("m11\u0000", 3);
        fault("m11\n", 3);
        fault("m11" + (char) (32 + 128), 3);
    }

    @Sentence(promise = 0, says = "none within items")
    static void noBlanksWithin() {
        fault("m 12", 1);
        fault("m1 2", 2);
        fault("  m11m2 2", 7);
    }

    @Sentence(promise = 0, says = "items are MATES 0, 1, .. (6 at most; none, too)")
    static void itemsAreMates() {
        mates("", 0);
        mates("  ", 0);
        mates("m11m22m33m44m55m66", 6);
        fault("m11m22m33m44m55m66m77", 18);
        HatDraw h = Due.office("m15 b26 s37");
        int[] worths = {5, 6, 7};
        for (int x = 0; x < 3; x++) {
            Due.told("worth of " + x, h, h.mate(x, 2), worths[x]);
        }
    }

    @Sentence(promise = 0, says = "a letter, the TABLE, the WORTH of the present that one gives (0 .. 9, one figure each).")
    static void figures() {
        for (int figure = 0; figure <= 9; figure++) {
            HatDraw h = Due.office("m" + figure + (9 - figure));
            Due.told("table", h, h.mate(0, 1), figure);
            Due.told("worth", h, h.mate(0, 2), 9 - figure);
        }
        fault("m123", 3);
        fault("m1", 2);
        fault("m", 1);
    }

    @Sentence(promise = 0, says = "A FAULT is the first place at which it can't go on so")
    static void firstFault() {
        fault("x x", 0);
        fault("m11 m2x m3x", 6);
        fault("mxx", 1);
        fault("m11 m22 m", 9);
        fault("m11 m22 m3", 10);
        fault("                                                           m", 60);
    }

    @Sentence(promise = 0, says = "(a letter, a figure that is none such: its place;")
    static void faultOfALetterOrFigure() {
        for (int v = -128; v <= 127; v++) {
            boolean letter = "mbnscp".indexOf(v) >= 0;
            boolean figure = v >= '0' && v <= '9';
            HatDraw h = new HatDraw();
            Due.write(h, 0, " m12");
            h.put(0, 1, v);
            // a blank instead of the letter leaves the table alone
            Due.is("letter " + v, h.fault(0), letter ? HatDraw.NONE : v == 32 ? 2 : 1);
            Due.write(h, 0, " m12");
            h.put(0, 2, v);
            Due.is("table " + v, h.fault(0), figure ? HatDraw.NONE : 2);
            Due.write(h, 0, " m12");
            h.put(0, 3, v);
            Due.is("worth " + v, h.fault(0), figure ? HatDraw.NONE : 3);
        }
    }

    @Sentence(promise = 0, says = "a seventh MATE: its letter)")
    static void faultOfASeventh() {
        fault("m11m22m33m44m55m66   m77", 21);
        fault("m11m22m33m44m55m66 m", 19);
        fault("m11m22m33m44m55m66 m7x", 19);
        fault("m11m22m33m44m55m6x m77", 17);
        fault("m11m22m33m44m55m66  ", HatDraw.NONE);
    }

    // ---- kinds: who may draw whom, by kinds alone

    private static HatDraw kinds(String letters) {
        HatDraw h = Due.office(letters);
        h.rules(0);
        return h;
    }

    private static void kind(String letter, int code, int kind) {
        HatDraw h = new HatDraw();
        h.text(0, 3);
        h.put(0, 0, code);
        h.put(0, 1, 48);
        h.put(0, 2, 48);
        Due.is("office by " + code, h.office(0), 1);
        Due.told("kind by " + code, h, h.mate(0, 0), kind);
        Due.is("letter", letter.charAt(0), code);
    }

    @Sentence(promise = 0, says = "KINDS of MATES and letters: 0 MATE (m, 109)")
    static void plainMates() {
        kind("m", 109, 0);
        HatDraw h = kinds("m11 m12");
        Due.is("nothing bars 0", h.may(0), 2);
        Due.is("nothing bars 1", h.may(1), 1);
    }

    @Sentence(promise = 0, says = "1 BOSS (b, 98; a MATE: is drawn by nobody of one's own TABLE)")
    static void bosses() {
        kind("b", 98, 1);
        HatDraw h = kinds("b15 m15 b15 m25");
        Due.is("a boss draws a mate of one's own table, no boss", h.may(0), 2 + 8);
        Due.is("a mate of the table draws no boss of it", h.may(1), 8);
        Due.is("of another table all", h.may(3), 1 + 2 + 4);
        h.move(1, 2);
        Due.is("from another table, too", h.may(1), 1 + 4 + 8);
    }

    @Sentence(promise = 0, says = "2 NEW (n, 110; a MATE: YEARS do not bar whom one draws)")
    static void newOnes() {
        kind("n", 110, 2);
        HatDraw h = kinds("n11 m22 n33 c44");
        Due.lay(h, 0, 1, 0, 3, 2);
        h.year(0);
        h.rules(2);
        Due.is("a new one is not barred by years", h.may(0), 14);
        Due.is("who draws a new one is", h.may(1), 12);
        Due.is("nor is a cashier", h.may(3), 7);
    }

    @Sentence(promise = 0, says = "3 SHY (s, 115; a MATE: is drawn by nobody whose WORTH is greater)")
    static void shyOnes() {
        kind("s", 115, 3);
        HatDraw h = kinds("s15 m14 m15 m16 s09");
        Due.is("less", h.may(1), 1 + 4 + 8 + 16);
        Due.is("as much", h.may(2), 1 + 2 + 8 + 16);
        Due.is("more", h.may(3), 2 + 4 + 16);
        Due.is("the shy one draws whom one likes", h.may(0), 2 + 4 + 8 + 16);
        Due.is("a shy one of more draws no shy one of less", h.may(4), 2 + 4 + 8);
    }

    @Sentence(promise = 0, says = "4 CASHIER (c, 99; a NEW: may draw back who draws one)")
    static void cashiers() {
        kind("c", 99, 4);
        HatDraw h = Due.office("c11 m22");
        Due.is("one way, back and forth", h.ways(), 1);
        h.draw(1);
        Due.is("a mate draws the cashier back", h.draw(0), 2);
        HatDraw other = Due.office("m11 c22");
        other.draw(1);
        Due.is("the cashier draws a mate back", other.draw(0), 2);
        Due.lay(h, 0, 1, 0);
        h.year(0);
        Due.is("as new: not barred by years", h.may(0), 2);
        Due.is("the mate is", h.may(1), 0);
        Due.is("counted as new", h.count(4), 1);
    }

    @Sentence(promise = 0, says = "5 PORTER (p, 112; a BOSS: draws nobody of one's own TABLE)")
    static void porters() {
        kind("p", 112, 5);
        HatDraw h = kinds("p15 m15 b15 m25 b25");
        Due.is("draws nobody of the table", h.may(0), 8 + 16);
        Due.is("as a boss: drawn by nobody of the table", h.may(1), 8 + 16);
        Due.is("nor by a boss of it", h.may(2), 2 + 8 + 16);
        Due.is("from another table by all", h.may(3), 1 + 2 + 4);
        Due.is("counted as a boss", h.count(3), 3);
        h.move(0, 2);
        Due.is("by where one is now", h.may(0), 2 + 4);
    }

    // ---- rules

    @Sentence(promise = 0, says = "RULES (bits; 7 at first)")
    static void rulesAreBits() {
        HatDraw h = Due.office("m11 m12 m23 m24");
        Due.lay(h, 0, 2, 3, 0, 1);
        h.year(0);
        // 1032 1230 1302 2031 2301 2310 3012 3201 3210: by each rule alone
        int[] rules = {0, 1, 2, 4, 8};
        int[] ways = {9, 6, 4, 4, 6};
        Due.is("at first", h.rules(0), 7);
        for (int k = 0; k < rules.length; k++) {
            h.rules(rules[k]);
            Due.is("ways by rules " + rules[k], h.ways(), ways[k]);
        }
        Due.is("all four leave none", rulesWays(h, 15), 0);
        Due.is("tables and years: 3210", rulesWays(h, 6), 1);
        Due.is("back, tables: 2310, 3201", rulesWays(h, 5), 2);
    }

    private static int rulesWays(HatDraw h, int rules) {
        h.rules(rules);
        return h.ways();
    }

    @Sentence(promise = 0, says = "1 BACK: nobody draws who draws one")
    static void back() {
        HatDraw h = Due.office("m11 m22 m33 m44");
        h.rules(1);
        int[][] pairs = {{1, 0, 3, 2}, {2, 3, 0, 1}, {3, 2, 1, 0}};
        for (int[] pair : pairs) {
            Due.lay(h, 0, pair);
            Due.both("pairs", h, h.judge(0), 0, 5);
        }
        Due.lay(h, 0, 1, 2, 3, 0);
        Due.both("a ring", h, h.judge(0), 4, 0);
        Due.is("two mates: none", rulesWays(Due.office("m11 m22"), 1), 0);
        Due.is("two mates without it: one", rulesWays(Due.office("m11 m22"), 14), 1);
    }

    @Sentence(promise = 0, says = "(CASHIERS may: a pair that draw each other is against it, if neither is a CASHIER)")
    static void backOfCashiers() {
        String[] offices = {"c11 m22", "m11 c22", "c11 c22", "m11 m22", "n11 n22", "n11 b22", "p11 s22", "n11 c22"};
        int[] ways = {1, 1, 1, 0, 0, 0, 0, 1};
        for (int k = 0; k < offices.length; k++) {
            HatDraw h = Due.office(offices[k]);
            h.rules(1);
            Due.is(offices[k], h.ways(), ways[k]);
        }
        HatDraw h = Due.office("c11 m22 m33 m44");
        Due.lay(h, 0, 1, 0, 3, 2);
        Due.both("the pair without a cashier", h, h.judge(0), 2, 5);
    }

    @Sentence(promise = 0, says = "2 YEARS: nobody draws whom one drew in the latest YEAR")
    static void latestYear() {
        HatDraw h = Refusals.four(2);
        Due.is("no year: nobody is barred", h.may(0), 14);
        Due.lay(h, 0, 1, 2, 3, 0);
        h.year(0);
        Due.is("the latest bars 1", h.may(0), 12);
        Due.lay(h, 0, 2, 3, 0, 1);
        h.year(0);
        Due.is("an earlier one does not", h.may(0), 2 + 8);
        Due.is("who was drawn by one is not barred", h.may(1), 1 + 4);
        h.forget(1);
        Due.is("the latest that is left", h.may(0), 12);
    }

    @Sentence(promise = 0, says = "4 TABLES: nobody draws one of one's own TABLE")
    static void ownTable() {
        HatDraw h = Due.office("m01 m02 m93 m94");
        h.rules(4);
        Due.is("table 0", h.may(0), 12);
        Due.is("table 9", h.may(3), 3);
        h.move(0, 9);
        Due.is("by where one is now", h.may(0), 2);
        h.rules(11);
        Due.is("not without it", h.may(0), 14);
    }

    @Sentence(promise = 0, says = "8 RING: all are one ring.")
    static void oneRing() {
        int[] rings = {1, 0, 1, 2, 6, 24, 120};
        StringBuilder letters = new StringBuilder();
        for (int n = 0; n <= 6; n++) {
            HatDraw h = Due.office(letters.toString());
            Due.is("rings of " + n, rulesWays(h, 8), rings[n]);
            letters.append('m').append(n).append(n);
        }
        HatDraw h = Refusals.four(8);
        Due.lay(h, 0, 1, 0, 3, 2);
        Due.both("two rings", h, h.judge(0), 0, 6);
        Due.lay(h, 0, 3, 0, 1, 2);
        Due.both("one", h, h.judge(0), 4, 0);
    }

    // ---- drawings

    @Sentence(promise = 0, says = "A ROW as DRAWING: for each MATE whom that one draws, all unlike.")
    static void rowsAsDrawings() {
        HatDraw h = Refusals.four(0);
        Due.lay(h, 0, 1, 2, 3, 0);
        h.year(0);
        for (int x = 0; x < 4; x++) {
            Due.told("whom " + x + " draws", h, h.mate(x, 3), (x + 1) % 4);
        }
        Refusals.oneTwice(h, HatDraw::judge);
    }

    @Sentence(promise = 0, says = "It is RIGHT, if nobody draws oneself, KINDS are not against it, nor RULES.")
    static void right() {
        HatDraw h = kinds("m11 b12 m23 m24");
        int[][] drawings = {{1, 0, 3, 2}, {0, 2, 3, 1}, {2, 3, 1, 0}, {2, 3, 0, 1}};
        int[] numbers = {HatDraw.NONE, HatDraw.NONE, 2, 1};
        for (int k = 0; k < 4; k++) {
            Due.lay(h, 0, drawings[k]);
            Due.is("number of drawing " + k, h.number(0), numbers[k]);
        }
        // 2031 2301 2310 3012 3201 3210 are left by the boss
        Due.is("by kinds", h.ways(), 6);
        Due.is("by back, too", rulesWays(h, 1), 4);
    }

    @Sentence(promise = 0, says = "DRAWINGS go by their first numbers, then second ones, ..")
    static void orderOfDrawings() {
        HatDraw h = Refusals.four(0);
        String[] nine = {"1032", "1230", "1302", "2031", "2301", "2310", "3012", "3201", "3210"};
        for (int i = 0; i < 9; i++) {
            h.nth(i, 0);
            for (int x = 0; x < 4; x++) {
                Due.told("drawing " + i + ", place " + x, h, h.at(0, x), nine[i].charAt(x) - '0');
            }
        }
    }

    @Sentence(promise = 0, says = "BARRED is a MATE to another one by oneself, KINDS, RULES 2, 4 (as bits of RULES have them).")
    static void barred() {
        HatDraw h = Due.office("m12 m12 b13 s21 m22");
        Due.lay(h, 0, 4, 2, 3, 1, 0);
        h.year(0);
        int[] rules = {0, 1, 8, 9, 2, 4, 6, 15};
        // by oneself, the boss 2, the shy 3; by years 4; by tables 1
        int[] may = {18, 18, 18, 18, 2, 16, 0, 0};
        for (int k = 0; k < rules.length; k++) {
            h.rules(rules[k]);
            Due.is("rules " + rules[k], h.may(0), may[k]);
        }
    }

    // ---- 2

    @Sentence(promise = 0, says = "PAPERS are drawn by MATE 0, then 1, ..")
    static void papersInOrder() {
        HatDraw h = Refusals.four(0);
        int[] papers = {3, 2, 0, 1};
        for (int x = 0; x < 4; x++) {
            Due.is("papers", h.draw(papers[x]), x + 1);
            Due.is("who drew", h.drew(x), papers[x]);
            Due.is("the next has not", x == 3 ? HatDraw.NONE : h.drew(x + 1), HatDraw.NONE);
        }
    }

    @Sentence(promise = 0, says = "each draws one who is not drawn yet.")
    static void notDrawnYet() {
        HatDraw h = Refusals.four(0);
        h.draw(3);
        Due.stays("drawn by 0", h, HatDraw.STATE, () -> h.draw(3));
        h.draw(2);
        Due.stays("drawn by 0", h, HatDraw.STATE, () -> h.draw(3));
        h.undo(0);
        h.draw(2);
        Due.is("it went back", h.draw(3), 2);
    }

    @Sentence(promise = 0, says = "A HAT is what was drawn so far.")
    static void hats() {
        HatDraw h = Refusals.four(0);
        Due.both("empty", h, h.can(), 14, 9);
        h.draw(1);
        Due.both("of one paper", h, h.can(), 1 + 4 + 8, 3);
        h.draw(0);
        Due.both("of two", h, h.can(), 8, 1);
    }

    @Sentence(promise = 0, says = "It CAN COME OUT, if some RIGHT DRAWING begins so.")
    static void canComeOut() {
        HatDraw three = Due.office("m11 m22 m33");
        three.rules(0);
        three.draw(1);
        Due.is("it can", three.turns(1, 2), 1);
        three.draw(0);
        Due.finds("2 is left with oneself", three, NOUGHT, () -> three.turns(1, 2));
        HatDraw two = Due.office("m11 m22");
        two.rules(0);
        two.draw(1);
        two.draw(0);
        Due.is("all have drawn, it is right", two.turns(0, 1), 1);
        two.rules(1);
        Due.finds("all have drawn, it is not", two, NOUGHT, () -> two.turns(0, 1));
    }

    @Sentence(promise = 0, says = "BY TURNS: each draws, of those whom one can draw so that it CAN COME OUT, any, all alike likely.")
    static void byTurns() {
        HatDraw h = Due.office("m11 m22 m33");
        h.rules(0);
        // 120 and 201 alone: 1 can't draw 0, or 2 would be left with oneself
        h.turns(1, 0);
        Due.fraction("1 draws 0", h, 1, 2);
        h.draw(1);
        h.turns(1, 0);
        Due.fraction("1 draws 0, who drew 1", h, 0, 1);
        h.turns(1, 2);
        Due.fraction("1 draws 2", h, 1, 1);
        HatDraw four = Refusals.four(0);
        // a third that 0 draws 1: then any of three; a third each that 0 draws 2 or 3: then any of two
        four.turns(1, 0);
        Due.fraction("a third of a third, twice a half of it", four, 4, 9);
    }

    @Sentence(promise = 0, says = "ALIKE: all RIGHT DRAWINGS (that begin so) are as likely.")
    static void allAlike() {
        HatDraw h = Refusals.four(0);
        h.alike(1, 0);
        Due.fraction("three of nine", h, 1, 3);
        h.draw(1);
        h.alike(3, 2);
        Due.fraction("of three that begin so: 1032, 1302", h, 2, 3);
        h.alike(3, 0);
        Due.fraction("1230", h, 1, 3);
        h.draw(0);
        h.alike(3, 2);
        Due.fraction("the only one", h, 1, 1);
    }

    // ---- 3

    @Sentence(promise = 0, says = "LOTS: a number comes from the one ahead by 48271 times it modulo 2147483647")
    static void lots() {
        int[] seeds = {1, 2, 44488, 44489, 44490, 1000000007, 2147483645, 2147483646};
        for (int seed : seeds) {
            HatDraw h = Due.office("m11 m22 m33 m44 m55 m66");
            h.rules(0);
            int[] due = Lots.played(h, seed);
            h.play(seed);
            for (int x = 0; x < 6; x++) {
                Due.is("seed " + seed + ", mate " + x, h.drew(x), due[x]);
            }
            Due.is("seed " + seed + ", by one lot", h.lot(seed, 0), Lots.first(seed, 265));
        }
    }

    @Sentence(promise = 0, says = "the first from a seed (1 .. 2147483646).")
    static void seeds() {
        HatDraw h = Refusals.four(0);
        Due.badOutside("lot", h, 1, 2147483646, seed -> h.lot(seed, 0));
        Due.badOutside("play", h, 1, 2147483646, seed -> h.play(seed));
        // 48271 modulo 9 is 4: the seed itself is no lot
        Due.is("the least", h.lot(1, 0), 4);
        // 2147483647 less 48271, modulo 9
        Due.is("the greatest", h.lot(2147483646, 0), 2147435376 % 9);
    }
}
