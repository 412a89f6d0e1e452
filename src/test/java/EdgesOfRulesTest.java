/** Promises 39 to 44, sentence by sentence: rules dropped, tables, rings, worth. */
public final class EdgesOfRulesTest {
    private static final int NOTHING = 1, NOUGHT = 4;

    public static void main(String[] args) throws Exception {
        Sentences.run(EdgesOfRulesTest.class);
    }

    private static HatDraw six(int rules) {
        HatDraw h = Due.office("m11 m22 m33 m44 m55 m66");
        h.rules(rules);
        return h;
    }

    // ---- promise 39

    private static void dropped(String what, HatDraw h, int fewest, int left) {
        Due.both(what, h, h.drop(), fewest, left);
    }

    @Sentence(promise = 39, says = "The fewest of RULES to be dropped so that there is a RIGHT DRAWING;")
    static void drops() {
        dropped("none", Refusals.four(15), 0, 15);
        HatDraw h = Due.office("m11 m12");
        h.rules(0);
        dropped("none of none", h, 0, 0);
        h.rules(1);
        dropped("back", h, 1, 0);
        h.rules(4);
        dropped("tables", h, 1, 0);
        h.rules(8);
        dropped("a ring of two", h, 0, 8);
        h.rules(5);
        dropped("both", h, 2, 0);
        Due.lay(h, 0, 1, 0);
        h.year(0);
        h.rules(15);
        dropped("all but the ring", h, 3, 8);
        h.rules(7);
        dropped("all three", h, 3, 0);
        h.rules(2);
        dropped("years", h, 1, 0);
        HatDraw ring = Due.office("m11 m12 m11 m22 m21 m22");
        ring.rules(12);
        Due.is("three and three: a ring", ring.ways() > 0 ? 1 : 0, 1);
        dropped("none", ring, 0, 12);
    }

    @Sentence(promise = 39, says = "RULES that are left (of alike ones the greatest number) by asked().")
    static void rulesThatAreLeft() {
        HatDraw h = Due.office("m11 m12 m23 m24");
        Due.lay(h, 0, 2, 3, 0, 1);
        h.year(0);
        // 3210 alone is left by years, tables: back could be dropped, or years, or tables
        dropped("back rather than years, tables", h, 1, 6);
        h.rules(15);
        // 3210 is no ring: years rather than tables
        dropped("years rather than tables", h, 1, 13);
        Due.is("rules stay", h.rules(15), 15);
        Due.stays("nothing is changed", h, 1, h::drop);
        HatDraw pair = Due.office("m11 m12 m21 m21");
        Due.lay(pair, 0, 2, 3, 0, 1);
        pair.year(0);
        pair.rules(14);
        Due.is("none by tables, years, ring", pair.ways(), 0);
        dropped("the ring is the greatest", pair, 1, 12);
    }

    @Sentence(promise = 39, says = "NONE: never.")
    static void neverByDropping() {
        String[] offices = {"m11", "p11 m12", "b11 b12", "s11 m22", "b15 m15 p15"};
        for (String letters : offices) {
            for (int rules = 0; rules <= 15; rules++) {
                HatDraw h = Due.office(letters);
                h.rules(rules);
                h.mate(0, 2);
                Due.stays(letters + " by " + rules, h, HatDraw.NONE, h::drop);
            }
        }
        HatDraw none = new HatDraw();
        dropped("without mates the empty one is", none, 0, 7);
    }

    // ---- promise 40

    private static void best(String what, HatDraw h, int x, int table, int ways) {
        Due.both(what, h, h.table(x), table, ways);
    }

    @Sentence(promise = 40, says = "To which TABLE (0 .. 9; the first) a MATE should go so that there are most RIGHT DRAWINGS;")
    static void tables() {
        HatDraw h = Due.office("m01 m02 m13");
        h.rules(4);
        best("alone at one, the first such", h, 0, 2, 2);
        best("nowhere", h, 2, 0, 0);
        HatDraw far = Due.office("m01 m11 m21 m31 m41 m41");
        far.rules(4);
        best("a sixth table", far, 5, 5, 265);
        best("it is the first of all", Due.office("m91 m91 m82"), 0, 0, 2);
        HatDraw free = Due.office("m91 m82 m73 m64");
        free.rules(0);
        best("no matter where: the first", free, 3, 0, 9);
        Due.stays("nothing is changed", free, 0, () -> free.table(3));
        Due.told("nobody has gone", free, free.mate(3, 1), 6);
    }

    @Sentence(promise = 40, says = "To which TABLE (0 .. 9; the first) a MATE should go so that there are most RIGHT DRAWINGS;")
    static void tableByAllRules() {
        HatDraw h = Due.office("p01 m12 m23 m34");
        h.rules(0);
        best("a porter where nobody is", h, 0, 0, 9);
        best("a mate not beside the porter", h, 1, 1, 9);
        h.rules(1);
        best("by back", h, 1, 1, 6);
        Due.lay(h, 0, 1, 2, 3, 0);
        h.year(0);
        h.rules(3);
        best("by years", h, 1, 1, 1);
        h.rules(1);
        best("a year that is told does not matter without its rule", h, 1, 1, 6);
        best("the boss and one at the table leave no way", Due.office("b03 m01 m02"), 2, 0, 0);
    }

    @Sentence(promise = 40, says = "how many by asked().")
    static void howManyAtATable() {
        best("none at any", Due.office("m11 m12"), 0, 0, 0);
        best("alone", Due.office("m51"), 0, 0, 0);
        best("as many as can be", six(0), 0, 0, 265);
    }

    @Sentence(promise = 40, says = "BAD.")
    static void tableOfNoMate() {
        HatDraw h = Refusals.busy();
        Due.badOutside("mate", h, 0, 3, h::table);
        HatDraw none = new HatDraw();
        Due.bad("without mates", none, () -> none.table(0));
    }

    // ---- promise 41

    private static void rings(HatDraw h, int many, int length, int... drawing) {
        Due.lay(h, 3, drawing);
        Due.both("rings", h, h.rings(3), many, length);
    }

    @Sentence(promise = 41, says = "How many rings a DRAWING in a ROW has;")
    static void howManyRings() {
        HatDraw h = six(15);
        rings(h, 6, 1, 0, 1, 2, 3, 4, 5);
        rings(h, 5, 1, 0, 1, 2, 3, 5, 4);
        rings(h, 4, 2, 1, 0, 3, 2, 4, 5);
        rings(h, 3, 2, 5, 4, 3, 2, 1, 0);
        rings(h, 2, 3, 2, 3, 4, 5, 0, 1);
        rings(h, 1, 6, 5, 0, 1, 2, 3, 4);
    }

    @Sentence(promise = 41, says = "the length of that of MATE 0 by asked()")
    static void theRingOfMateNought() {
        HatDraw h = six(0);
        rings(h, 2, 1, 0, 2, 3, 4, 5, 1);
        rings(h, 2, 5, 1, 2, 3, 4, 0, 5);
        rings(h, 2, 4, 3, 2, 1, 5, 0, 4);
        rings(h, 2, 2, 4, 2, 3, 5, 0, 1);
        HatDraw alone = Due.office("m11");
        rings(alone, 1, 1, 0);
    }

    @Sentence(promise = 41, says = "(without MATES: 0, 0).")
    static void ringsWithoutMates() {
        HatDraw none = new HatDraw();
        Due.lay(none, 0, 9);
        none.at(0, 0);
        rings(none, 0, 0);
    }

    @Sentence(promise = 41, says = "BAD;")
    static void ringsOfNoRow() {
        HatDraw h = Refusals.busy();
        Due.badOutside("row", h, 0, 5, h::rings);
    }

    @Sentence(promise = 41, says = "NOTHING;")
    static void ringsOfAMissingRow() {
        Refusals.missing(Refusals.busy(), HatDraw::rings);
    }

    @Sentence(promise = 41, says = "SIZE;")
    static void ringsOfNotAsMany() {
        Refusals.notAsMany(Refusals.busy(), HatDraw::rings);
    }

    @Sentence(promise = 41, says = "UNLIKE.")
    static void ringsOfNoDrawing() {
        Refusals.noneOfMates(Refusals.busy(), HatDraw::rings);
        Refusals.oneTwice(Refusals.busy(), HatDraw::rings);
    }

    // ---- promise 42

    private static void ringed(HatDraw h, int k, int many, long upper, long lower) {
        Due.is(k + " rings", h.ringed(k), many);
        Due.fraction(k + " rings", h, upper, lower);
    }

    @Sentence(promise = 42, says = "How many RIGHT DRAWINGS have k (0 .. 6) rings, of all, told by upper(), lower(): how many.")
    static void ringedOfAll() {
        HatDraw h = six(0);
        ringed(h, 0, 0, 0, 1);
        ringed(h, 1, 120, 24, 53);
        ringed(h, 2, 130, 26, 53);
        ringed(h, 3, 15, 3, 53);
        ringed(h, 4, 0, 0, 1);
        ringed(h, 5, 0, 0, 1);
        ringed(h, 6, 0, 0, 1);
        h.rules(1);
        ringed(h, 1, 120, 3, 4);
        ringed(h, 2, 40, 1, 4);
        h.rules(8);
        ringed(h, 1, 120, 1, 1);
        HatDraw none = new HatDraw();
        ringed(none, 0, 1, 1, 1);
        ringed(none, 6, 0, 0, 1);
    }

    @Sentence(promise = 42, says = "BAD;")
    static void ringedByNoNumber() {
        HatDraw h = Refusals.busy();
        Due.badOutside("rings", h, 0, 6, h::ringed);
        HatDraw alone = Refusals.alone();
        Due.badOutside("rings, there is no right drawing", alone, 0, 6, alone::ringed);
    }

    @Sentence(promise = 42, says = "NOUGHT: there is none.")
    static void ringedOfNone() {
        HatDraw h = Refusals.alone();
        for (int k = 0; k <= 6; k++) {
            int rings = k;
            Due.finds(k + " rings", h, NOUGHT, () -> h.ringed(rings));
        }
    }

    // ---- promise 43

    @Sentence(promise = 43, says = "The most even RIGHT DRAWING (the first):")
    static void theMostEven() {
        HatDraw h = Due.office("m11 m22 m35 m46");
        h.rules(0);
        Due.is("pairs", h.even(0), 1);
        Due.holds("pairs", h, 0, 1, 0, 3, 2);
        h.rules(8);
        Due.is("rings: four of six are as even", h.even(0), 4);
        Due.holds("the first", h, 0, 1, 3, 0, 2);
        HatDraw later = Due.office("m19 m20 m38 m41");
        later.rules(0);
        Due.is("not the first drawing", later.even(0), 1);
        Due.holds("who are alike draw each other", later, 0, 2, 3, 0, 1);
        HatDraw last = Due.office("m19 m21 m31 m49");
        last.rules(0);
        Due.is("the last drawing", last.even(0), 0);
        Due.holds("the last drawing", last, 0, 3, 2, 1, 0);
    }

    @Sentence(promise = 43, says = "the least greatest difference of what a MATE gives and is given, by WORTH;")
    static void differences() {
        String[] offices = {"m15 m25 m35", "m10 m29", "m19 m20", "m10 m29 m30 m49", "m10 m25 m39"};
        int[] due = {0, 9, 9, 0, 9};
        for (int k = 0; k < offices.length; k++) {
            HatDraw h = Due.office(offices[k]);
            h.rules(0);
            Due.is(offices[k], h.even(0), due[k]);
        }
        Due.is("without mates", new HatDraw().even(0), 0);
        HatDraw shy = Due.office("s12 m25 m39");
        // none of more draws the shy one, whom somebody must
        Due.is("there is none", shy.even(0), HatDraw.NONE);
    }

    @Sentence(promise = 43, says = "it comes to a ROW (anew).")
    static void theMostEvenComes() {
        HatDraw h = Due.office("m11 m22 m33");
        h.row(0, 40);
        Due.is("to a greater row", h.even(0), 2);
        Due.holds("to a greater row", h, 0, 1, 2, 0);
        Due.is("to a missing row", h.even(5), 2);
        Due.holds("to a missing row", h, 5, 1, 2, 0);
        Due.is("rows", h.count(6), 2);
        HatDraw none = new HatDraw();
        Due.lay(none, 2, 7);
        Due.is("the empty one", none.even(2), 0);
        Due.holds("the empty one", none, 2);
    }

    @Sentence(promise = 43, says = "NONE: there is none.")
    static void noneIsEven() {
        HatDraw h = Refusals.alone();
        Due.stays("alone", h, HatDraw.NONE, () -> h.even(0));
        Due.stays("a missing row", h, HatDraw.NONE, () -> h.even(5));
        Due.holds("the row stays", h, 0, 2, 0, 3, 1);
        Due.finds("it is missing still", h, NOTHING, () -> h.at(5, 0));
        HatDraw tables = Due.office("m11 m12");
        Due.stays("by tables", tables, HatDraw.NONE, () -> tables.even(0));
    }

    @Sentence(promise = 43, says = "BAD.")
    static void evenInNoRow() {
        HatDraw h = Refusals.busy();
        Due.badOutside("row", h, 0, 5, h::even);
        HatDraw alone = Refusals.alone();
        Due.badOutside("row, there is none", alone, 0, 5, alone::even);
    }

    // ---- promise 44

    @Sentence(promise = 44, says = "What a MATE is given in a DRAWING in a ROW less what that one gives, by WORTH, told by asked(): 1.")
    static void gains() {
        HatDraw h = Due.office("m10 m29 m35 m45");
        int[][] drawings = {{1, 0, 3, 2}, {1, 2, 3, 0}, {0, 1, 2, 3}, {3, 0, 1, 2}};
        int[][] due = {{9, -9, 0, 0}, {5, -9, 4, 0}, {0, 0, 0, 0}, {9, -4, 0, -5}};
        for (int k = 0; k < 4; k++) {
            Due.lay(h, 5, drawings[k]);
            for (int x = 0; x < 4; x++) {
                Due.told("gain of " + x, h, h.gain(5, x), due[k][x]);
            }
        }
        HatDraw alone = Due.office("m19");
        Due.lay(alone, 0, 0);
        Due.told("of one mate", alone, alone.gain(0, 0), 0);
    }

    @Sentence(promise = 44, says = "BAD;")
    static void gainOfNoMate() {
        HatDraw h = Refusals.busy();
        Due.badOutside("row", h, 0, 5, r -> h.gain(r, 0));
        Due.badOutside("mate", h, 0, 3, x -> h.gain(0, x));
        Due.badOutside("mate, of no row", h, 0, 3, x -> h.gain(5, x));
        HatDraw none = new HatDraw();
        none.row(0, 0);
        Due.bad("without mates", none, () -> none.gain(0, 0));
    }

    @Sentence(promise = 44, says = "NOTHING;")
    static void gainOfAMissingRow() {
        Refusals.missing(Refusals.busy(), (h, r) -> h.gain(r, 3));
    }

    @Sentence(promise = 44, says = "SIZE;")
    static void gainOfNotAsMany() {
        Refusals.notAsMany(Refusals.busy(), (h, r) -> h.gain(r, 3));
    }

    @Sentence(promise = 44, says = "UNLIKE.")
    static void gainOfNoDrawing() {
        Refusals.noneOfMates(Refusals.busy(), (h, r) -> h.gain(r, 3));
        Refusals.oneTwice(Refusals.busy(), (h, r) -> h.gain(r, 3));
    }
}
