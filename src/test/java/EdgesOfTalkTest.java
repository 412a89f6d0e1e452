/** Promises 35 to 38, sentence by sentence: what those know who talk. */
public final class EdgesOfTalkTest {
    private static final int UNLIKE = 3;

    public static void main(String[] args) throws Exception {
        Sentences.run(EdgesOfTalkTest.class);
    }

    /** 1032 1230 1302 2031 2301 2310 3012 3201 3210; row 0 is 2031, row 4 is 3210. */
    private static HatDraw nine() {
        HatDraw h = Refusals.four(0);
        Due.lay(h, 0, 2, 0, 3, 1);
        Due.lay(h, 4, 3, 2, 1, 0);
        return h;
    }

    /** One right drawing alone, in row 0. */
    private static HatDraw onlyOne() {
        HatDraw h = Due.office("m11 m22");
        h.rules(0);
        Due.lay(h, 0, 1, 0);
        return h;
    }

    private static HatDraw nobody() {
        HatDraw h = new HatDraw();
        h.row(0, 0);
        return h;
    }

    private static void notRight(HatDraw h, Refusals.OfRow by) {
        int[][] drawings = {{1, 0, 3, 2}, {0, 1, 2, 3}, {1, 2, 0, 3}};
        for (int[] drawing : drawings) {
            Due.lay(h, 3, drawing);
            Due.finds("a drawing that is not right", h, UNLIKE, () -> by.call(h, 3));
        }
        h.rules(2);
        Due.lay(h, 3, 1, 2, 3, 0);
        Due.finds("not right by years", h, UNLIKE, () -> by.call(h, 3));
        HatDraw alone = Refusals.alone();
        Due.lay(alone, 3, 0);
        Due.finds("there is no right one", alone, UNLIKE, () -> by.call(alone, 3));
    }

    // ---- promise 35

    @Sentence(promise = 35, says = "Of a RIGHT DRAWING in a ROW MATES of a set tell whom they drew: how many RIGHT DRAWINGS fit that.")
    static void fits() {
        HatDraw h = nine();
        int[] fit = {9, 3, 3, 1, 3, 1, 2, 1, 3, 2, 1, 1, 1, 1, 1, 1};
        for (int set = 0; set < 16; set++) {
            Due.is("set " + set, h.fits(0, set), fit[set]);
        }
        Due.is("of another row", h.fits(4, 6), 1);
        Due.is("the only one, none tells", onlyOne().fits(0, 0), 1);
        Due.is("the only one, all tell", onlyOne().fits(0, 3), 1);
        Due.is("without mates", nobody().fits(0, 0), 1);
        HatDraw six = Due.office("m11 m22 m33 m44 m55 m66");
        six.rules(0);
        six.nth(264, 0);
        Due.is("of 265, none tells", six.fits(0, 0), 265);
        Due.is("the last of six tells", six.fits(0, 32), 53);
        Due.is("all six tell", six.fits(0, 63), 1);
    }

    @Sentence(promise = 35, says = "BAD;")
    static void fitsOfNoSet() {
        HatDraw h = nine();
        Due.badOutside("row", h, 0, 5, r -> h.fits(r, 0));
        Due.badOutside("set", h, 0, 15, set -> h.fits(0, set));
        Due.badOutside("set, of no row", h, 0, 15, set -> h.fits(5, set));
        HatDraw none = nobody();
        Due.badOutside("set, without mates", none, 0, 0, set -> none.fits(0, set));
    }

    @Sentence(promise = 35, says = "NOTHING;")
    static void fitsOfAMissingRow() {
        Refusals.missing(nine(), (h, r) -> h.fits(r, 0));
    }

    @Sentence(promise = 35, says = "SIZE;")
    static void fitsOfNotAsMany() {
        Refusals.notAsMany(nine(), (h, r) -> h.fits(r, 0));
    }

    @Sentence(promise = 35, says = "UNLIKE:")
    static void fitsOfNoDrawing() {
        Refusals.noneOfMates(nine(), (h, r) -> h.fits(r, 0));
        Refusals.oneTwice(nine(), (h, r) -> h.fits(r, 0));
    }

    @Sentence(promise = 35, says = "also, it is not RIGHT.")
    static void fitsOfOneNotRight() {
        notRight(Refusals.busy(), (h, r) -> h.fits(r, 0));
    }

    // ---- promise 36

    @Sentence(promise = 36, says = "Then MATES (bits; not of the set) of whom all know whom they drew.")
    static void known() {
        HatDraw h = nine();
        int[] known = {0, 0, 0, 12, 0, 10, 0, 8, 0, 0, 5, 4, 3, 2, 1, 0};
        for (int set = 0; set < 16; set++) {
            Due.is("set " + set, h.known(0, set), known[set]);
        }
        Due.is("the only one, none tells", onlyOne().known(0, 0), 3);
        Due.is("the only one, one tells", onlyOne().known(0, 1), 2);
        Due.is("the only one, all tell", onlyOne().known(0, 3), 0);
        Due.is("without mates", nobody().known(0, 0), 0);
        HatDraw tables = Due.office("m11 m12 m23 m24");
        tables.rules(4);
        Due.lay(tables, 0, 2, 3, 0, 1);
        Due.is("what one tells of another one", tables.known(0, 1), 2);
        Due.is("some of those left", tables.known(0, 5), 10);
    }

    @Sentence(promise = 36, says = "BAD;")
    static void knownOfNoSet() {
        HatDraw h = nine();
        Due.badOutside("row", h, 0, 5, r -> h.known(r, 0));
        Due.badOutside("set", h, 0, 15, set -> h.known(0, set));
        Due.badOutside("set, of no row", h, 0, 15, set -> h.known(5, set));
        HatDraw none = nobody();
        Due.badOutside("set, without mates", none, 0, 0, set -> none.known(0, set));
    }

    @Sentence(promise = 36, says = "NOTHING;")
    static void knownOfAMissingRow() {
        Refusals.missing(nine(), (h, r) -> h.known(r, 0));
    }

    @Sentence(promise = 36, says = "SIZE;")
    static void knownOfNotAsMany() {
        Refusals.notAsMany(nine(), (h, r) -> h.known(r, 0));
    }

    @Sentence(promise = 36, says = "UNLIKE.")
    static void knownOfNoDrawing() {
        Refusals.noneOfMates(nine(), (h, r) -> h.known(r, 0));
        Refusals.oneTwice(nine(), (h, r) -> h.known(r, 0));
        notRight(Refusals.busy(), (h, r) -> h.known(r, 0));
    }

    // ---- promise 37

    @Sentence(promise = 37, says = "Who should keep still: the MATE of a set without whose telling most RIGHT DRAWINGS fit")
    static void still() {
        HatDraw h = nine();
        // without 0: 1 and 2 leave two; without 1 or 2 one is left
        Due.both("0", h, h.still(0, 7), 0, 2);
        // without 2: 0 and 3 leave two
        Due.both("2", h, h.still(0, 13), 2, 2);
        // without 1: 0 and 3 leave two; without 0 or 3 one is left
        Due.both("1", h, h.still(0, 11), 1, 2);
        HatDraw tables = Due.office("m11 m12 m23 m24");
        tables.rules(4);
        Due.lay(tables, 0, 2, 3, 0, 1);
        Due.both("who tells what others tell not", tables, tables.still(0, 7), 2, 2);
        Due.both("the last one", tables, tables.still(0, 11), 3, 2);
    }

    @Sentence(promise = 37, says = "(the first);")
    static void theFirstToKeepStill() {
        HatDraw h = nine();
        Due.both("any of two", h, h.still(0, 12), 2, 3);
        Due.both("any of all", h, h.still(0, 15), 0, 1);
        // without 1 or 2 two are left, without 3 one
        Due.both("any of two of three", h, h.still(4, 14), 1, 2);
        HatDraw one = onlyOne();
        Due.both("any of one drawing", one, one.still(0, 3), 0, 1);
    }

    @Sentence(promise = 37, says = "how many by asked().")
    static void howManyFitThen() {
        HatDraw h = nine();
        for (int x = 0; x < 4; x++) {
            Due.both("one alone: all fit", h, h.still(0, 1 << x), x, 9);
        }
        HatDraw one = onlyOne();
        Due.both("the only one", one, one.still(0, 2), 1, 1);
        HatDraw six = Due.office("m11 m22 m33 m44 m55 m66");
        six.rules(0);
        six.nth(0, 0);
        Due.both("of 265", six, six.still(0, 32), 5, 265);
    }

    @Sentence(promise = 37, says = "NONE: an empty set.")
    static void anEmptySet() {
        HatDraw h = nine();
        h.at(0, 0);
        Due.stays("an empty set", h, HatDraw.NONE, () -> h.still(0, 0));
        HatDraw none = nobody();
        Due.stays("without mates", none, HatDraw.NONE, () -> none.still(0, 0));
        Refusals.missing(nine(), (other, r) -> other.still(r, 0));
    }

    @Sentence(promise = 37, says = "BAD;")
    static void stillOfNoSet() {
        HatDraw h = nine();
        Due.badOutside("row", h, 0, 5, r -> h.still(r, 1));
        Due.badOutside("row, an empty set", h, 0, 5, r -> h.still(r, 0));
        Due.badOutside("set", h, 0, 15, set -> h.still(0, set));
        Due.badOutside("set, of no row", h, 0, 15, set -> h.still(5, set));
        HatDraw none = nobody();
        Due.badOutside("set, without mates", none, 0, 0, set -> none.still(0, set));
    }

    @Sentence(promise = 37, says = "NOTHING;")
    static void stillOfAMissingRow() {
        Refusals.missing(nine(), (h, r) -> h.still(r, h.count(0) == 0 ? 0 : 1));
    }

    @Sentence(promise = 37, says = "SIZE;")
    static void stillOfNotAsMany() {
        Refusals.notAsMany(nine(), (h, r) -> h.still(r, 1));
    }

    @Sentence(promise = 37, says = "UNLIKE.")
    static void stillOfNoDrawing() {
        Refusals.noneOfMates(nine(), (h, r) -> h.still(r, 1));
        Refusals.oneTwice(nine(), (h, r) -> h.still(r, 1));
        notRight(Refusals.busy(), (h, r) -> h.still(r, 1));
    }

    // ---- promise 38

    @Sentence(promise = 38, says = "The fewest MATES who have to tell, so that all is known;")
    static void fewest() {
        HatDraw h = nine();
        Due.both("two of nine", h, h.fewest(0), 2, 3);
        HatDraw one = onlyOne();
        Due.both("none, there is one alone", one, one.fewest(0), 0, 0);
        HatDraw none = nobody();
        Due.both("none, without mates", none, none.fewest(0), 0, 0);
        HatDraw two = Due.office("m11 m22 m33");
        two.rules(0);
        Due.lay(two, 0, 1, 2, 0);
        Due.both("one of two drawings", two, two.fewest(0), 1, 1);
        HatDraw six = Due.office("m11 m22 m33 m44 m55 m66");
        six.rules(0);
        Due.lay(six, 0, 1, 0, 3, 2, 5, 4);
        // three who are left always have another way, two only if they don't draw each other
        Due.both("four, of pairs", six, six.fewest(0), 4, 15);
    }

    @Sentence(promise = 38, says = "the least such set (bits) by asked().")
    static void theLeastSuchSet() {
        HatDraw h = nine();
        // 3210 is known by 1 and 2, by 0 and 3
        Due.both("not 0 and 1, nor 0 and 2", h, h.fewest(4), 2, 6);
        HatDraw tables = Due.office("m11 m12 m23 m24");
        tables.rules(4);
        Due.lay(tables, 0, 3, 2, 1, 0);
        Due.both("one of each table", tables, tables.fewest(0), 2, 5);
        HatDraw new4 = Due.office("m11 n22 m33 m44");
        new4.rules(2);
        Due.lay(new4, 0, 1, 2, 3, 0);
        new4.year(0);
        Due.lay(new4, 0, 3, 2, 0, 1);
        Due.both("one, and not the first", new4, new4.fewest(0), 1, 2);
    }

    @Sentence(promise = 38, says = "BAD;")
    static void fewestOfNoRow() {
        HatDraw h = nine();
        Due.badOutside("row", h, 0, 5, h::fewest);
    }

    @Sentence(promise = 38, says = "NOTHING;")
    static void fewestOfAMissingRow() {
        Refusals.missing(nine(), HatDraw::fewest);
    }

    @Sentence(promise = 38, says = "SIZE;")
    static void fewestOfNotAsMany() {
        Refusals.notAsMany(nine(), HatDraw::fewest);
    }

    @Sentence(promise = 38, says = "UNLIKE.")
    static void fewestOfNoDrawing() {
        Refusals.noneOfMates(nine(), HatDraw::fewest);
        Refusals.oneTwice(nine(), HatDraw::fewest);
        notRight(Refusals.busy(), HatDraw::fewest);
    }
}
