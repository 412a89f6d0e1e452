/** Promises 31 to 34, sentence by sentence: years. */
public final class EdgesOfYearsTest {
    private static final int NOTHING = 1, UNLIKE = 3, SIZE = 5;

    public static void main(String[] args) throws Exception {
        Sentences.run(EdgesOfYearsTest.class);
    }

    // ---- promise 31

    @Sentence(promise = 31, says = "A DRAWING in a ROW becomes the latest YEAR")
    static void years() {
        HatDraw h = Refusals.four(2);
        Due.lay(h, 0, 1, 2, 3, 0);
        Due.lay(h, 5, 2, 3, 0, 1);
        h.year(0);
        Due.told("the first", h, h.mate(0, 3), 1);
        h.year(5);
        Due.told("the latest", h, h.mate(0, 3), 2);
        Due.is("it bars", h.may(0), 10);
        h.lay(5, 0, 3);
        h.tear(0);
        Due.told("rows that change do not matter", h, h.mate(0, 3), 2);
        HatDraw six = Due.office("m11 m22 m33 m44 m55 m66");
        Due.lay(six, 0, 5, 4, 3, 2, 1, 0);
        six.year(0);
        for (int x = 0; x < 6; x++) {
            Due.told("of six", six, six.mate(x, 3), 5 - x);
        }
    }

    @Sentence(promise = 31, says = "(RIGHT or not):")
    static void rightOrNot() {
        HatDraw h = Refusals.four(15);
        Due.lay(h, 0, 0, 1, 2, 3);
        Due.is("all drew themselves", h.year(0), 0);
        Due.told("all drew themselves", h, h.mate(2, 3), 2);
        Due.lay(h, 0, 1, 0, 3, 2);
        Due.is("against back, ring", h.year(0), 1);
        Due.is("against years", h.year(0), 2);
        HatDraw kinds = Due.office("p11 b12");
        Due.lay(kinds, 0, 1, 0);
        Due.is("against kinds, tables", kinds.year(0), 0);
        HatDraw alone = Due.office("m11");
        Due.lay(alone, 0, 0);
        Due.is("of one mate", alone.year(0), 0);
    }

    @Sentence(promise = 31, says = "the number of the YEAR (0, 1, ..).")
    static void numbersOfYears() {
        HatDraw h = Refusals.busy();
        h.forget(0);
        for (int k = 0; k < 12; k++) {
            Due.is("number", h.year(0), k);
            Due.is("years", h.count(2), k + 1);
        }
        h.forget(3);
        Due.is("after some are forgotten", h.year(0), 3);
    }

    @Sentence(promise = 31, says = "BAD;")
    static void yearOfNoRow() {
        HatDraw h = Refusals.busy();
        Due.badOutside("row", h, 0, 5, h::year);
    }

    @Sentence(promise = 31, says = "FULL: 12;")
    static void fullOfYears() {
        HatDraw h = Refusals.full();
        Due.stays("a thirteenth", h, HatDraw.FULL, () -> h.year(0));
        Due.is("twelve are there", h.count(2), 12);
        h.forget(11);
        Due.is("room for one", h.year(0), 11);
        Due.stays("full again", h, HatDraw.FULL, () -> h.year(0));
        h.office(0);
        Due.is("an office anew has room", h.year(0), 0);
    }

    @Sentence(promise = 31, says = "STATE: no MATES;")
    static void yearWithoutMates() {
        HatDraw none = new HatDraw();
        none.row(0, 0);
        Due.stays("the empty drawing", none, HatDraw.STATE, () -> none.year(0));
        HatDraw h = Refusals.busy();
        h.office(2);
        Due.stays("no mates any more", h, HatDraw.STATE, () -> h.year(4));
    }

    @Sentence(promise = 31, says = "NOTHING;")
    static void yearOfAMissingRow() {
        Refusals.missing(Refusals.busy(), HatDraw::year);
    }

    @Sentence(promise = 31, says = "SIZE;")
    static void yearOfNotAsMany() {
        Refusals.notAsMany(Refusals.busy(), HatDraw::year);
    }

    @Sentence(promise = 31, says = "UNLIKE.")
    static void yearOfNoDrawing() {
        Refusals.noneOfMates(Refusals.busy(), HatDraw::year);
        Refusals.oneTwice(Refusals.busy(), HatDraw::year);
    }

    @Sentence(promise = 31, says = "(In this order.)")
    static void yearRefusedInOrder() {
        HatDraw full = Refusals.full();
        Due.bad("BAD ahead of FULL", full, () -> full.year(6));
        Due.stays("FULL ahead of NOTHING", full, HatDraw.FULL, () -> full.year(5));
        Due.stays("FULL ahead of SIZE", full, HatDraw.FULL, () -> full.year(2));
        Due.stays("FULL ahead of UNLIKE", full, HatDraw.FULL, () -> full.year(3));
        HatDraw none = new HatDraw();
        none.row(1, 3);
        Due.bad("BAD ahead of STATE", none, () -> none.year(-1));
        Due.stays("STATE ahead of NOTHING", none, HatDraw.STATE, () -> none.year(0));
        Due.stays("STATE ahead of SIZE", none, HatDraw.STATE, () -> none.year(1));
        HatDraw h = Refusals.busy();
        Due.finds("NOTHING ahead of SIZE", h, NOTHING, () -> h.year(5));
        Due.lay(h, 1, 9, 9, 9);
        Due.finds("SIZE ahead of UNLIKE", h, SIZE, () -> h.year(1));
        Due.finds("UNLIKE", h, UNLIKE, () -> h.year(3));
    }

    // ---- promise 32

    @Sentence(promise = 32, says = "YEARS from number n on (0 to how many there are: none then) are forgotten: how many.")
    static void forgotten() {
        for (int n = 0; n <= 12; n++) {
            HatDraw h = Refusals.full();
            Due.is("from " + n + " on", h.forget(n), 12 - n);
            Due.is("left", h.count(2), n);
            Due.is("none then", h.forget(n), 0);
        }
        Due.is("without mates", new HatDraw().forget(0), 0);
    }

    @Sentence(promise = 32, says = "YEARS from number n on (0 to how many there are: none then) are forgotten: how many.")
    static void theLatestOfThoseLeft() {
        HatDraw h = Refusals.four(2);
        Due.lay(h, 0, 1, 2, 3, 0);
        Due.lay(h, 1, 2, 3, 0, 1);
        h.year(0);
        h.year(1);
        h.year(1);
        Due.is("two", h.forget(1), 2);
        Due.told("the first is the latest", h, h.mate(0, 3), 1);
        Due.is("it bars", h.may(0), 12);
        Due.is("ways", h.ways(), 2);
        Due.is("the last", h.forget(0), 1);
        Due.is("none bars", h.may(0), 14);
        Due.is("ways by none", h.ways(), 9);
    }

    @Sentence(promise = 32, says = "BAD.")
    static void forgottenBeyond() {
        HatDraw h = Refusals.busy();
        Due.badOutside("of one", h, 0, 1, h::forget);
        h.forget(0);
        Due.badOutside("of none", h, 0, 0, h::forget);
        HatDraw full = Refusals.full();
        Due.badOutside("of twelve", full, 0, 12, full::forget);
    }

    // ---- promise 33

    @Sentence(promise = 33, says = "How many YEARS it can go on from now, if each YEAR the first RIGHT DRAWING is taken that is none of all YEARS")
    static void runs() {
        HatDraw h = Due.office("m11 m22 m33");
        h.rules(0);
        Due.is("two drawings", h.run(), 2);
        h.rules(2);
        Due.is("one, the other", h.run(), 2);
        HatDraw four = Refusals.four(0);
        Due.is("nine", four.run(), 9);
        four.rules(1);
        Due.is("six", four.run(), 6);
        four.rules(2);
        // 1032, 2301, 1230, 3012: of the others none is unlike that everywhere
        Due.is("by years", four.run(), 4);
        HatDraw alone = Refusals.alone();
        Due.is("none", alone.run(), 0);
    }

    @Sentence(promise = 33, says = "(with those told),")
    static void runWithThoseTold() {
        HatDraw h = Refusals.four(0);
        for (int i = 0; i < 9; i++) {
            h.nth(i, 0);
            h.year(0);
            Due.is("told " + (i + 1), h.run(), 8 - i);
        }
        Due.lay(h, 0, 0, 1, 2, 3);
        h.year(0);
        Due.is("one that is not right takes none", h.run(), 0);
        h.forget(0);
        h.year(0);
        Due.is("of all but that", h.run(), 9);
        h.nth(4, 0);
        h.year(0);
        h.year(0);
        Due.is("one twice", h.run(), 8);
        h.forget(0);
        Due.is("those forgotten are not told", h.run(), 9);
        HatDraw three = Due.office("m11 m22 m33");
        three.rules(0);
        for (int i = 0; i < 2; i++) {
            three.nth(i, 0);
            three.year(0);
        }
        three.forget(1);
        Due.is("nor is the one of two", three.run(), 1);
    }

    @Sentence(promise = 33, says = "30 at most;")
    static void runThirtyAtMost() {
        HatDraw h = Due.office("m11 m22 m33 m44 m55 m66");
        h.rules(0);
        Due.is("of 265", h.run(), 30);
        Due.lay(h, 0, 1, 2, 3, 4, 5, 0);
        for (int k = 0; k < 12; k++) {
            h.year(0);
        }
        Due.is("from twelve on", h.run(), 30);
        HatDraw five = Due.office("m11 m22 m33 m44 m55");
        five.rules(8);
        Due.is("all 24", five.run(), 24);
        five.rules(0);
        Due.is("of 44", five.run(), 30);
    }

    @Sentence(promise = 33, says = "30 at most;")
    static void runOfAboutThirty() {
        String[] offices = {"s23 b68 m62 m35 m65 s46", "m39 m32 s48 s45 s47 m13", "m14 m66 s21 m24 b61 m68"};
        for (int k = 0; k < 3; k++) {
            HatDraw h = Due.office(offices[k]);
            h.rules(0);
            Due.is("ways", h.ways(), 29 + k);
            Due.is("of " + (29 + k), h.run(), Math.min(29 + k, 30));
            for (int i = 0; i < 4; i++) {
                h.nth(i, 0);
                h.year(0);
                Due.is("of " + (28 + k - i) + " that are left", h.run(), Math.min(28 + k - i, 30));
            }
        }
    }

    @Sentence(promise = 33, says = "without MATES 0.")
    static void runWithoutMates() {
        HatDraw none = new HatDraw();
        Due.stays("at first", none, 0, none::run);
        HatDraw h = Refusals.busy();
        h.office(2);
        Due.stays("no mates any more", h, 0, h::run);
    }

    @Sentence(promise = 33, says = "(YEARS stay.)")
    static void yearsStay() {
        HatDraw h = Refusals.four(2);
        Due.stays("none", h, h.run(), h::run);
        Due.told("none", h, h.mate(0, 3), HatDraw.NONE);
        Due.lay(h, 0, 1, 2, 3, 0);
        h.year(0);
        Due.stays("one", h, h.run(), h::run);
        Due.is("ways by it", h.ways(), 2);
        HatDraw full = Refusals.full();
        Due.stays("twelve", full, full.run(), full::run);
        Due.is("whom one drew", full.times(0, 1) + full.times(0, 2), 12);
    }

    // ---- promise 34

    @Sentence(promise = 34, says = "How many times a MATE drew another one in all YEARS.")
    static void times() {
        HatDraw h = Refusals.four(0);
        Due.is("no years", h.times(0, 1), 0);
        Due.lay(h, 0, 1, 0, 3, 2);
        Due.lay(h, 1, 1, 2, 3, 0);
        for (int k = 0; k < 6; k++) {
            h.year(0);
            h.year(1);
        }
        Due.is("each year", h.times(0, 1), 12);
        Due.is("each other year", h.times(1, 0), 6);
        Due.is("the others", h.times(1, 2), 6);
        Due.is("never", h.times(3, 1), 0);
        h.forget(7);
        Due.is("those that are left", h.times(0, 1), 7);
        Due.is("the earlier ones", h.times(3, 2), 4);
        h.draw(2);
        Due.is("the hat is no year", h.times(0, 2), 0);
    }

    @Sentence(promise = 34, says = "BAD: also oneself.")
    static void timesOfNoMate() {
        HatDraw h = Refusals.busy();
        Due.badOutside("who", h, 0, 3, x -> h.times(x, 1));
        Due.badOutside("whom", h, 0, 3, y -> h.times(1, y));
        Due.lay(h, 0, 0, 1, 2, 3);
        h.year(0);
        for (int x = 0; x < 4; x++) {
            int mate = x;
            Due.bad("oneself", h, () -> h.times(mate, mate));
        }
        HatDraw none = new HatDraw();
        Due.bad("without mates", none, () -> none.times(0, 1));
    }
}
