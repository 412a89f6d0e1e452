/** Promises 35 to 38: what those know who talk. */
public final class TalkTest {
    private static final int NOTHING = 1, UNLIKE = 3, SIZE = 5;

    public static void main(String[] args) {
        ofNine();
        ofTwoTables();
        fewest();
        refused();
        Due.end();
    }

    /** Nine: 1032 1230 1302 2031 2301 2310 3012 3201 3210. */
    private static void ofNine() {
        HatDraw h = Due.office("m11 m22 m33 m44");
        h.rules(0);
        Due.lay(h, 0, 2, 0, 3, 1);
        int[] sets = {0, 1, 2, 4, 8, 3, 5, 6, 9, 10, 12, 7, 15};
        int[] fit = {9, 3, 3, 3, 3, 1, 1, 2, 2, 1, 1, 1, 1};
        for (int k = 0; k < sets.length; k++) {
            Due.is("35: set " + sets[k], h.fits(0, sets[k]), fit[k]);
        }
        Due.is("36: of two who tell all", h.known(0, 3), 12);
        Due.is("36: two are left", h.known(0, 6), 0);
        Due.is("36: none tells", h.known(0, 0), 0);
        Due.is("36: all tell", h.known(0, 15), 0);
        Due.is("37: without 1: 0 and 2; without 0: 1 and 2", h.still(0, 7), 0);
        Due.is("37: two fit", h.asked(), 2);
        Due.is("37: any of two", h.still(0, 12), 2);
        Due.is("37: three fit", h.asked(), 3);
        Due.is("37: one alone", h.still(0, 8), 3);
        Due.is("37: all fit", h.asked(), 9);
        Due.is("37: any of all", h.still(0, 15), 0);
        Due.is("37: one fits", h.asked(), 1);
        h.at(0, 0);
        Due.is("37: an empty set", h.still(0, 0), HatDraw.NONE);
        Due.is("45: NONE tells nothing", h.asked(), 2);
        Due.is("38: two", h.fewest(0), 2);
        Due.is("38: 0 and 1", h.asked(), 3);
    }

    private static void ofTwoTables() {
        HatDraw h = Due.office("m11 m12 m23 m24");
        h.rules(4);
        Due.lay(h, 5, 2, 3, 0, 1);
        Due.is("36: what 0 tells of 1", h.known(5, 1), 2);
        Due.is("36: what 0 and 2 tell", h.known(5, 5), 10);
        Due.is("37: 2 knows more of it", h.still(5, 7), 2);
        Due.is("37: two fit", h.asked(), 2);
        Due.is("37: the first", h.still(5, 3), 0);
        Due.is("37: two fit", h.asked(), 2);
        Due.is("38: one of each table", h.fewest(5), 2);
        Due.is("38: 0 and 2", h.asked(), 5);
    }

    private static void fewest() {
        HatDraw h = Due.office("m11 m22");
        h.rules(0);
        Due.lay(h, 0, 1, 0);
        h.at(0, 0);
        Due.is("38: all is known ahead", h.fewest(0), 0);
        Due.is("38: the empty set", h.asked(), 0);
        Due.is("36: known ahead", h.known(0, 0), 3);
        HatDraw none = new HatDraw();
        none.row(0, 0);
        Due.is("35: without mates", none.fits(0, 0), 1);
        Due.is("36: without mates", none.known(0, 0), 0);
        Due.is("37: without mates", none.still(0, 0), HatDraw.NONE);
        Due.is("38: without mates", none.fewest(0), 0);
        Due.is("35: BAD, no such mate", none.fits(0, 1), HatDraw.BAD);
    }

    private static void finding(String what, HatDraw h, int r, int f) {
        long before = h.digest();
        Due.refused("35: " + what, h, before, h.fits(r, 0), f);
        Due.refused("36: " + what, h, before, h.known(r, 0), f);
        Due.refused("37: " + what, h, before, h.still(r, 0), f);
        Due.refused("38: " + what, h, before, h.fewest(r), f);
    }

    private static void refused() {
        HatDraw h = Due.office("m11 m22 m33");
        finding("NOTHING", h, 0, NOTHING);
        h.row(0, 4);
        finding("SIZE", h, 0, SIZE);
        h.row(0, 3);
        finding("UNLIKE", h, 0, UNLIKE);
        Due.lay(h, 0, 1, 0, 2);
        finding("UNLIKE, not right", h, 0, UNLIKE);
        Due.lay(h, 0, 1, 2, 0);
        Due.is("35: right", h.fits(0, 0), 2);
        h.year(0);
        finding("UNLIKE, not right by years", h, 0, UNLIKE);
        int[] rows = {-1, 6};
        for (int r : rows) {
            Due.is("35: BAD row", h.fits(r, 0), HatDraw.BAD);
            Due.is("36: BAD row", h.known(r, 0), HatDraw.BAD);
            Due.is("37: BAD row", h.still(r, 0), HatDraw.BAD);
            Due.is("38: BAD row", h.fewest(r), HatDraw.BAD);
        }
        int[] sets = {-1, 8, -2147483648, 2147483647};
        for (int set : sets) {
            Due.is("35: BAD set", h.fits(0, set), HatDraw.BAD);
            Due.is("36: BAD set, ahead of NOTHING", h.known(3, set), HatDraw.BAD);
            Due.is("37: BAD set", h.still(0, set), HatDraw.BAD);
        }
    }
}
