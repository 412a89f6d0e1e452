/** Promises 17 to 21, sentence by sentence: drawings judged, counted, told, drawn by lot. */
public final class EdgesOfDrawingsTest {
    private static final int NOUGHT = 4, SIZE = 5;

    public static void main(String[] args) throws Exception {
        Sentences.run(EdgesOfDrawingsTest.class);
    }

    private static void judged(String what, HatDraw h, int who, int by, int... drawing) {
        Due.lay(h, 3, drawing);
        Due.both(what, h, h.judge(3), who, by);
    }

    // ---- promise 17

    @Sentence(promise = 17, says = "A DRAWING in a ROW judged: the first MATE whose paper is against it")
    static void theFirstOneAgainstIt() {
        HatDraw h = Refusals.four(0);
        judged("the first", h, 0, 1, 0, 2, 3, 1);
        judged("the last", h, 3, 1, 1, 2, 0, 3);
        judged("the first of two", h, 1, 1, 2, 1, 0, 3);
        h.rules(1);
        judged("the first of a pair", h, 0, 5, 3, 2, 1, 0);
        HatDraw five = Due.office("m11 m22 m33 m44 m55");
        five.rules(1);
        judged("the first of a pair behind mate 0", five, 1, 5, 3, 2, 1, 4, 0);
    }

    @Sentence(promise = 17, says = "(as many as MATES: none);")
    static void noneAgainstIt() {
        judged("four", Refusals.four(15), 4, 0, 1, 2, 3, 0);
        judged("six", Due.office("m11 m22 m33 m44 m55 m66"), 6, 0, 5, 0, 1, 2, 3, 4);
        judged("none at all", new HatDraw(), 0, 0);
        HatDraw h = new HatDraw();
        h.rules(15);
        judged("none at all, all rules", h, 0, 0);
    }

    @Sentence(promise = 17, says = "by what by asked() (0 none, 1 oneself, 2 KINDS, 3 TABLES, 4 YEARS, 5 BACK,")
    static void byWhat() {
        HatDraw h = Due.office("m11 m12 b23 m24 m35");
        Due.lay(h, 0, 4, 0, 3, 1, 2);
        h.year(0);
        judged("none", h, 5, 0, 2, 3, 4, 0, 1);
        judged("oneself", h, 4, 1, 2, 3, 1, 0, 4);
        judged("kinds", h, 3, 2, 3, 4, 1, 2, 0);
        judged("tables", h, 0, 3, 1, 3, 4, 0, 2);
        judged("years", h, 0, 4, 4, 2, 1, 0, 3);
        judged("back", h, 0, 5, 3, 2, 4, 0, 1);
        judged("kinds, of a shy one", Due.office("s11 m22 m33"), 2, 2, 1, 2, 0);
        judged("kinds, of a porter", Due.office("p11 m12 m23"), 0, 2, 1, 2, 0);
    }

    @Sentence(promise = 17, says = "6 RING (then MATE 0);")
    static void byRing() {
        HatDraw h = Refusals.four(8);
        judged("two rings", h, 0, 6, 1, 0, 3, 2);
        judged("two others", h, 0, 6, 2, 3, 0, 1);
        judged("one ring", h, 4, 0, 2, 3, 1, 0);
        h.rules(0);
        judged("it is no rule", h, 4, 0, 1, 0, 3, 2);
    }

    @Sentence(promise = 17, says = "the first of these, but")
    static void theFirstOfThese() {
        HatDraw h = Due.office("m11 b12 m13 m24");
        Due.lay(h, 0, 1, 0, 3, 2);
        h.year(0);
        judged("kinds ahead of tables, years, back", h, 0, 2, 1, 0, 3, 2);
        h.move(1, 3);
        judged("years ahead of back", h, 0, 4, 1, 0, 3, 2);
        h.rules(5);
        judged("back alone", h, 0, 5, 1, 0, 3, 2);
        judged("kinds of a shy one ahead of tables", Due.office("m12 s11 m23"), 0, 2, 1, 2, 0);
        judged("kinds of a porter ahead of tables", Due.office("p12 m11 m23"), 0, 2, 1, 2, 0);
        HatDraw tables = Due.office("m11 m12 m23 m24");
        Due.lay(tables, 0, 1, 0, 3, 2);
        tables.year(0);
        judged("tables ahead of years, back", tables, 0, 3, 1, 0, 3, 2);
        tables.rules(3);
        judged("then years", tables, 0, 4, 1, 0, 3, 2);
        tables.rules(1);
        judged("then back", tables, 0, 5, 1, 0, 3, 2);
        Due.lay(tables, 0, 0, 1, 2, 3);
        tables.year(0);
        tables.rules(15);
        judged("oneself ahead of tables, years, back", tables, 0, 1, 0, 1, 2, 3);
    }

    @Sentence(promise = 17, says = "6 only if there is no other one at all).")
    static void ringOnlyIfNoOther() {
        HatDraw h = Refusals.four(9);
        judged("back of the last pair", h, 0, 5, 1, 0, 3, 2);
        HatDraw cashier = Due.office("c11 m22 m33 m44");
        cashier.rules(9);
        judged("another one, behind mate 0", cashier, 2, 5, 1, 0, 3, 2);
        judged("oneself, the last one", cashier, 3, 1, 1, 2, 0, 3);
        HatDraw cashiers = Due.office("c11 m22 c33 m44");
        cashiers.rules(9);
        judged("no other one at all", cashiers, 0, 6, 1, 0, 3, 2);
    }

    @Sentence(promise = 17, says = "BAD;")
    static void judgeNoRow() {
        HatDraw h = Refusals.busy();
        Due.badOutside("row", h, 0, 5, h::judge);
    }

    @Sentence(promise = 17, says = "NOTHING;")
    static void judgeAMissingRow() {
        Refusals.missing(Refusals.busy(), HatDraw::judge);
    }

    @Sentence(promise = 17, says = "SIZE: not as many as MATES;")
    static void judgeNotAsMany() {
        Refusals.notAsMany(Refusals.busy(), HatDraw::judge);
        HatDraw none = new HatDraw();
        none.row(0, 1);
        Due.finds("one place, no mates", none, SIZE, () -> none.judge(0));
    }

    @Sentence(promise = 17, says = "UNLIKE: none of MATES, one twice.")
    static void judgeNoneOfMates() {
        Refusals.noneOfMates(Refusals.busy(), HatDraw::judge);
    }

    @Sentence(promise = 17, says = "UNLIKE: none of MATES, one twice.")
    static void judgeOneTwice() {
        Refusals.oneTwice(Refusals.busy(), HatDraw::judge);
    }

    // ---- promise 18

    @Sentence(promise = 18, says = "How many RIGHT DRAWINGS there are")
    static void howMany() {
        int[] loose = {0, 1, 2, 9, 44, 265};
        StringBuilder letters = new StringBuilder("m00");
        for (int n = 1; n <= 6; n++) {
            HatDraw h = Due.office(letters.toString());
            h.rules(0);
            Due.is(n + " mates", h.ways(), loose[n - 1]);
            letters.append('m').append(n).append(n);
        }
        Due.is("none: all at one table", Due.office("m11 m11 m11").ways(), 0);
    }

    @Sentence(promise = 18, says = "How many RIGHT DRAWINGS there are")
    static void howManyByNow() {
        HatDraw h = Refusals.four(0);
        Due.is("at first", h.ways(), 9);
        h.rules(1);
        Due.is("other rules", h.ways(), 6);
        Due.lay(h, 0, 1, 2, 3, 0);
        h.rules(2);
        Due.is("no year yet", h.ways(), 9);
        h.year(0);
        Due.is("a year", h.ways(), 2);
        h.forget(0);
        Due.is("forgotten", h.ways(), 9);
        h.rules(4);
        Due.is("no two at one table yet", h.ways(), 9);
        h.move(0, 2);
        Due.is("two at one table", h.ways(), 4);
        h.keep(0);
        h.rules(0);
        Due.is("no rules", h.ways(), 9);
        h.on(0);
        Due.is("rules as kept", h.ways(), 4);
        h.draw(2);
        Due.is("the hat is not asked", h.ways(), 4);
        h.office(0);
        Due.is("by the text again", h.ways(), 9);
    }

    @Sentence(promise = 18, says = "(without MATES one: the empty one).")
    static void theEmptyOne() {
        HatDraw h = new HatDraw();
        for (int rules = 0; rules <= 15; rules++) {
            h.rules(rules);
            Due.is("rules " + rules, h.ways(), 1);
        }
        Due.is("it comes", h.nth(0, 0), 1);
        Due.is("it is empty", h.row(0, 0), 0);
    }

    // ---- promise 19

    @Sentence(promise = 19, says = "RIGHT DRAWING number i (0, 1, ..) comes to a ROW (anew): 1.")
    static void nth() {
        HatDraw h = Refusals.four(0);
        Due.is("the first, to a missing row", h.nth(0, 5), 1);
        Due.holds("the first", h, 5, 1, 0, 3, 2);
        h.row(5, 40);
        Due.is("the last, to a greater row", h.nth(8, 5), 1);
        Due.holds("the last", h, 5, 3, 2, 1, 0);
        Due.is("to an empty row", h.row(0, 0), 0);
        Due.is("the fifth", h.nth(4, 0), 1);
        Due.holds("the fifth", h, 0, 2, 3, 0, 1);
        HatDraw none = new HatDraw();
        Due.lay(none, 0, 7);
        Due.is("the empty one", none.nth(0, 0), 1);
        Due.holds("no place", none, 0);
    }

    @Sentence(promise = 19, says = "BAD: below 0;")
    static void nthBelowNone() {
        HatDraw h = Refusals.busy();
        Due.bad("-1", h, () -> h.nth(-1, 0));
        Due.bad("the least", h, () -> h.nth(Integer.MIN_VALUE, 0));
        Due.badOutside("row", h, 0, 5, r -> h.nth(0, r));
    }

    @Sentence(promise = 19, says = "NOUGHT: there are not so many.")
    static void nthBeyond() {
        HatDraw h = Refusals.busy();
        Due.is("the last", h.nth(5, 1), 1);
        Due.finds("one more", h, NOUGHT, () -> h.nth(6, 0));
        Due.finds("the greatest", h, NOUGHT, () -> h.nth(Integer.MAX_VALUE, 0));
        Due.finds("to a missing row", h, NOUGHT, () -> h.nth(6, 5));
        HatDraw alone = Refusals.alone();
        Due.finds("there is none", alone, NOUGHT, () -> alone.nth(0, 0));
        HatDraw six = Due.office("m11 m22 m33 m44 m55 m66");
        six.rules(0);
        Due.is("the last of all", six.nth(264, 0), 1);
        Due.finds("one more than all", six, NOUGHT, () -> six.nth(265, 0));
    }

    // ---- promise 20

    @Sentence(promise = 20, says = "Which number a RIGHT DRAWING in a ROW has.")
    static void numbers() {
        HatDraw h = Due.office("m11 m22 m33 m44 m55 m66");
        h.rules(0);
        for (int i = 0; i < 265; i++) {
            h.nth(i, i % 6);
            Due.is("number", h.number(i % 6), i);
        }
        HatDraw none = new HatDraw();
        none.row(0, 0);
        Due.is("the empty one", none.number(0), 0);
    }

    @Sentence(promise = 20, says = "NONE: it is not RIGHT.")
    static void noNumber() {
        HatDraw h = Refusals.busy();
        Due.stays("by back", h, HatDraw.NONE, () -> h.number(1));
        Due.lay(h, 1, 0, 2, 3, 1);
        Due.stays("oneself", h, HatDraw.NONE, () -> h.number(1));
        Due.lay(h, 1, 1, 2, 3, 0);
        Due.is("right", h.number(1), 0);
        h.rules(2);
        Due.stays("by years", h, HatDraw.NONE, () -> h.number(1));
        h.rules(4);
        h.move(0, 2);
        Due.stays("by tables", h, HatDraw.NONE, () -> h.number(1));
        h.rules(8);
        Due.lay(h, 1, 2, 3, 0, 1);
        Due.stays("by ring", h, HatDraw.NONE, () -> h.number(1));
        HatDraw kinds = Due.office("m11 b12 m13");
        kinds.rules(0);
        Due.lay(kinds, 0, 1, 2, 0);
        Due.stays("by kinds", kinds, HatDraw.NONE, () -> kinds.number(0));
        HatDraw alone = Due.office("m11");
        Due.lay(alone, 0, 0);
        Due.stays("there is none", alone, HatDraw.NONE, () -> alone.number(0));
    }

    @Sentence(promise = 20, says = "BAD;")
    static void numberOfNoRow() {
        HatDraw h = Refusals.busy();
        Due.badOutside("row", h, 0, 5, h::number);
    }

    @Sentence(promise = 20, says = "NOTHING;")
    static void numberOfAMissingRow() {
        Refusals.missing(Refusals.busy(), HatDraw::number);
    }

    @Sentence(promise = 20, says = "SIZE;")
    static void numberOfNotAsMany() {
        Refusals.notAsMany(Refusals.busy(), HatDraw::number);
    }

    @Sentence(promise = 20, says = "UNLIKE.")
    static void numberOfNoDrawing() {
        Refusals.noneOfMates(Refusals.busy(), HatDraw::number);
        Refusals.oneTwice(Refusals.busy(), HatDraw::number);
    }

    // ---- promise 21

    @Sentence(promise = 21, says = "By LOTS of a seed, all alike: a number modulo how many there are: that RIGHT DRAWING comes to a ROW (anew): its number.")
    static void lots() {
        int[] seeds = {1, 2, 5, 77, 44488, 44489, 65536, 123456789, 1073741824, 2147483645, 2147483646};
        String[] offices = {"m11 m22 m33 m44", "m11 m22 m33", "m11 b22 n33 s44 c55 p66", "m11 m22 m33 m44 m55 m66"};
        for (String letters : offices) {
            HatDraw h = Due.office(letters);
            h.rules(0);
            h.row(2, 40);
            for (int seed : seeds) {
                int due = Lots.first(seed, h.ways());
                Due.is("seed " + seed, h.lot(seed, 2), due);
                Due.is("it came", h.number(2), due);
            }
        }
        HatDraw none = new HatDraw();
        Due.lay(none, 4, 7);
        Due.is("the empty one", none.lot(3, 4), 0);
        Due.holds("no place", none, 4);
    }

    @Sentence(promise = 21, says = "BAD;")
    static void lotOfNoSeed() {
        HatDraw h = Refusals.busy();
        int[] seeds = {0, -1, -48271, Integer.MIN_VALUE, Integer.MAX_VALUE};
        for (int seed : seeds) {
            Due.bad("seed " + seed, h, () -> h.lot(seed, 0));
        }
        Due.badOutside("row", h, 0, 5, r -> h.lot(1, r));
        Due.is("the least seed", h.lot(1, 0) >= 0 ? 1 : 0, 1);
        Due.is("the greatest seed", h.lot(2147483646, 0) >= 0 ? 1 : 0, 1);
    }

    @Sentence(promise = 21, says = "NOUGHT: there is none.")
    static void lotOfNone() {
        HatDraw h = Refusals.alone();
        Due.finds("there is none", h, NOUGHT, () -> h.lot(1, 0));
        Due.holds("the row stays", h, 0, 2, 0, 3, 1);
    }
}
