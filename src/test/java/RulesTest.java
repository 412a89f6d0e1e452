/** Promises 39 to 44: rules dropped, tables, rings, worth. */
public final class RulesTest {
    private static final int NOTHING = 1, UNLIKE = 3, NOUGHT = 4, SIZE = 5;

    public static void main(String[] args) {
        drops();
        dropsTheLeast();
        tables();
        rings();
        ringed();
        evens();
        gains();
        Due.end();
    }

    private static void drop(String what, HatDraw h, int fewest, int left) {
        Due.is("39: " + what, h.drop(), fewest);
        Due.is("39: " + what + ", left", h.asked(), left);
    }

    private static void drops() {
        HatDraw h = Due.office("m11 m12");
        drop("back and tables", h, 2, 2);
        Due.lay(h, 0, 1, 0);
        h.year(0);
        drop("all three", h, 3, 0);
        h.rules(13);
        drop("a ring of two stays", h, 2, 8);
        Due.is("39: rules stay", h.rules(0), 13);
        drop("none of none", h, 0, 0);
        h.at(0, 0);
        Due.write(h, 0, "p11 m12");
        h.office(0);
        long before = h.digest();
        Due.is("39: never", h.drop(), HatDraw.NONE);
        Due.is("39: NONE tells nothing", h.asked(), 1);
        Due.is("39: unchanged", h.digest(), before);
        drop("without mates", new HatDraw(), 0, 7);
    }

    private static void dropsTheLeast() {
        HatDraw h = Due.office("m11 m12 m23 m24");
        drop("none is to be dropped", h, 0, 7);
        Due.lay(h, 0, 2, 3, 0, 1);
        h.year(0);
        // by tables and years 3210 alone is left, pairs; each rule of the three could be dropped
        drop("back, the least", h, 1, 6);
        h.rules(15);
        // 3210 is no ring: years are dropped
        drop("years", h, 1, 13);
        Due.is("39: ways stay", h.ways(), 0);
    }

    private static void tables() {
        HatDraw h = Due.office("m01 m02 m13");
        h.rules(4);
        long before = h.digest();
        Due.is("40: alone at one", h.table(0), 2);
        Due.is("40: two", h.asked(), 2);
        Due.is("40: that of 2 is its own", h.table(2), 0);
        Due.is("40: none helps", h.asked(), 0);
        Due.is("40: unchanged", h.digest(), before);
        Due.is("40: ways stay", h.ways(), 0);
        h.rules(0);
        Due.is("40: without tables, the first", h.table(1), 0);
        Due.is("40: two, anyway", h.asked(), 2);
        Due.is("40: BAD below", h.table(-1), HatDraw.BAD);
        Due.is("40: BAD above", h.table(3), HatDraw.BAD);
        Due.lay(h, 0, 1, 2, 0);
        h.year(0);
        h.table(0);
        Due.is("40: a year told counts, too, without its rule", h.asked(), 2);
        h.rules(2);
        h.table(0);
        Due.is("40: by the rule it is barred", h.asked(), 1);
        HatDraw far = Due.office("b01 b11 b21 b31 b41 m51");
        far.rules(0);
        Due.is("40: a sixth table", far.table(5), 5);
        Due.is("40: as many as can be", far.asked(), 265);
    }

    private static void ring(HatDraw h, int many, int length, int... ints) {
        Due.lay(h, 0, ints);
        Due.is("41: rings", h.rings(0), many);
        Due.is("41: length", h.asked(), length);
    }

    private static void rings() {
        HatDraw h = Due.office("m11 m11 m11 m11 m11 m11");
        ring(h, 6, 1, 0, 1, 2, 3, 4, 5);
        ring(h, 1, 6, 1, 2, 3, 4, 5, 0);
        ring(h, 3, 2, 5, 2, 1, 4, 3, 0);
        ring(h, 3, 3, 2, 1, 5, 4, 3, 0);
        ring(h, 2, 1, 0, 2, 3, 4, 5, 1);
        Due.is("41: BAD below", h.rings(-1), HatDraw.BAD);
        Due.is("41: BAD above", h.rings(6), HatDraw.BAD);
        Due.refused("41: NOTHING", h, h.digest(), h.rings(1), NOTHING);
        h.row(1, 5);
        Due.refused("41: SIZE", h, h.digest(), h.rings(1), SIZE);
        h.row(1, 6);
        Due.refused("41: UNLIKE", h, h.digest(), h.rings(1), UNLIKE);
        HatDraw none = new HatDraw();
        Due.lay(none, 1, 7);
        none.at(1, 0);
        ring(none, 0, 0);
    }

    private static void share(HatDraw h, int k, int many, long up, long low) {
        Due.is("42: " + k + " rings", h.ringed(k), many);
        Due.fraction("42: " + k + " rings", h, up, low);
    }

    private static void ringed() {
        HatDraw h = Due.office("m11 m22 m33 m44 m55 m66");
        h.rules(0);
        share(h, 0, 0, 0, 1);
        share(h, 1, 120, 24, 53);
        share(h, 2, 130, 26, 53);
        share(h, 3, 15, 3, 53);
        share(h, 6, 0, 0, 1);
        h.rules(8);
        share(h, 1, 120, 1, 1);
        Due.is("42: BAD below", h.ringed(-1), HatDraw.BAD);
        Due.is("42: BAD above", h.ringed(7), HatDraw.BAD);
        share(new HatDraw(), 0, 1, 1, 1);
        share(new HatDraw(), 1, 0, 0, 1);
        h.ringed(1);
        Due.write(h, 0, "m11");
        h.office(0);
        Due.refused("42: NOUGHT", h, h.digest(), h.ringed(1), NOUGHT);
        Due.fraction("42: stays", h, 1, 1);
    }

    private static void evens() {
        HatDraw h = Due.office("m11 m22 m35 m46");
        h.rules(0);
        h.row(4, 40);
        Due.is("43: pairs", h.even(4), 1);
        Due.holds("43: pairs, anew", h, 4, 1, 0, 3, 2);
        h.rules(1);
        Due.is("43: rings", h.even(4), 4);
        Due.holds("43: the first", h, 4, 1, 3, 0, 2);
        Due.is("43: BAD below", h.even(-1), HatDraw.BAD);
        Due.is("43: BAD above", h.even(6), HatDraw.BAD);
        Due.write(h, 0, "m11");
        h.office(0);
        int found = h.finding();
        Due.is("43: there is none", h.even(4), HatDraw.NONE);
        Due.is("43: NONE is no finding", h.finding(), found);
        Due.holds("43: the row stays", h, 4, 1, 3, 0, 2);
        h.text(0, 0);
        h.office(0);
        Due.is("43: without mates", h.even(4), 0);
        Due.holds("43: an empty row", h, 4);
        HatDraw wide = Due.office("m10 m29");
        wide.rules(0);
        Due.is("43: as uneven as can be", wide.even(0), 9);
    }

    private static void gains() {
        HatDraw h = Due.office("m11 m22 m35 m46");
        Due.lay(h, 0, 1, 2, 3, 0);
        int[] gains = {5, -1, -3, -1};
        for (int x = 0; x < 4; x++) {
            Due.told("44: gain of " + x, h, h.gain(0, x), gains[x]);
        }
        Due.lay(h, 0, 0, 1, 3, 2);
        Due.told("44: right or not", h, h.gain(0, 0), 0);
        HatDraw alone = Due.office("m17");
        Due.lay(alone, 0, 0);
        Due.told("44: of one mate", alone, alone.gain(0, 0), 0);
        Due.is("44: BAD row below", h.gain(-1, 0), HatDraw.BAD);
        Due.is("44: BAD row above", h.gain(6, 0), HatDraw.BAD);
        Due.is("44: BAD mate below", h.gain(0, -1), HatDraw.BAD);
        Due.is("44: BAD mate above, ahead of NOTHING", h.gain(1, 4), HatDraw.BAD);
        Due.refused("44: NOTHING", h, h.digest(), h.gain(1, 0), NOTHING);
        h.row(1, 3);
        Due.refused("44: SIZE", h, h.digest(), h.gain(1, 0), SIZE);
        h.row(1, 4);
        Due.refused("44: UNLIKE", h, h.digest(), h.gain(1, 0), UNLIKE);
    }
}
