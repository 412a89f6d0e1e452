/** Promises 31 to 34: years. */
public final class YearsTest {
    private static final int NOTHING = 1, UNLIKE = 3, SIZE = 5;

    public static void main(String[] args) {
        years();
        yearRefused();
        forgets();
        runs();
        runsToTheEnd();
        times();
        Due.end();
    }

    private static void years() {
        HatDraw h = Due.office("m11 m22 m33");
        Due.lay(h, 0, 1, 2, 0);
        Due.is("31: first", h.year(0), 0);
        Due.is("31: years bar", h.ways(), 1);
        Due.lay(h, 0, 0, 1, 2);
        Due.is("31: not right", h.year(0), 1);
        Due.is("31: the latest alone bars", h.ways(), 2);
        h.tear(0);
        Due.told("31: it stays without the row", h, h.mate(2, 3), 2);
        Due.is("31: two", h.count(2), 2);
        HatDraw alone = Due.office("m11");
        Due.lay(alone, 0, 0);
        Due.is("31: of one mate", alone.year(0), 0);
        Due.told("31: who drew oneself", alone, alone.mate(0, 3), 0);
    }

    private static void yearRefused() {
        HatDraw none = new HatDraw();
        Due.is("31: STATE ahead of NOTHING", none.year(0), HatDraw.STATE);
        Due.is("31: BAD ahead of STATE", none.year(6), HatDraw.BAD);
        HatDraw h = Due.office("m11 m22 m33");
        Due.is("31: BAD below", h.year(-1), HatDraw.BAD);
        Due.refused("31: NOTHING", h, h.digest(), h.year(0), NOTHING);
        h.row(0, 2);
        Due.refused("31: SIZE", h, h.digest(), h.year(0), SIZE);
        h.row(0, 3);
        Due.refused("31: UNLIKE", h, h.digest(), h.year(0), UNLIKE);
        Due.lay(h, 0, 1, 2, 0);
        for (int k = 0; k < 12; k++) {
            Due.is("31: number", h.year(0), k);
        }
        int before = h.finding();
        Due.is("31: FULL", h.year(0), HatDraw.FULL);
        Due.is("31: FULL ahead of NOTHING", h.year(1), HatDraw.FULL);
        Due.is("31: BAD ahead of FULL", h.year(6), HatDraw.BAD);
        Due.is("31: FULL is no finding", h.finding(), before);
        Due.is("31: twelve", h.count(2), 12);
        Due.is("34: twelve times", h.times(0, 1), 12);
        Due.is("33: run on from twelve", h.run(), 1);
        h.forget(11);
        Due.is("31: room again", h.year(0), 11);
    }

    private static void forgets() {
        HatDraw h = Due.office("m11 m22 m33");
        Due.lay(h, 0, 1, 2, 0);
        Due.lay(h, 1, 2, 0, 1);
        h.year(0);
        h.year(1);
        h.year(0);
        Due.is("32: none then", h.forget(3), 0);
        Due.is("32: BAD above", h.forget(4), HatDraw.BAD);
        Due.is("32: BAD below", h.forget(-1), HatDraw.BAD);
        Due.is("32: one", h.forget(2), 1);
        Due.told("32: the latest is another", h, h.mate(0, 3), 2);
        Due.is("32: it bars", h.may(0), 2);
        Due.is("32: ways", h.ways(), 1);
        Due.is("32: all", h.forget(0), 2);
        Due.told("32: no year", h, h.mate(0, 3), HatDraw.NONE);
        Due.is("32: none bars", h.ways(), 2);
        Due.is("32: none there", h.forget(0), 0);
        Due.is("32: BAD, there is none", h.forget(1), HatDraw.BAD);
    }

    private static void runs() {
        HatDraw h = Due.office("m11 m22 m33");
        Due.is("33: one ring, then the other", h.run(), 2);
        Due.is("33: years stay", h.count(2), 0);
        Due.lay(h, 0, 1, 2, 0);
        h.year(0);
        long before = h.digest();
        Due.is("33: one is told", h.run(), 1);
        Due.is("33: nothing is changed", h.digest(), before);
        Due.is("33: ways stay", h.ways(), 1);
        Due.lay(h, 0, 0, 1, 2);
        h.year(0);
        Due.is("33: that of all years, not of the latest alone", h.run(), 1);
        h.rules(0);
        Due.is("33: without rules none twice either", h.run(), 1);
        h.rules(7);
        h.forget(1);
        Due.lay(h, 0, 2, 0, 1);
        h.year(0);
        Due.is("33: both are told", h.run(), 0);
        h.forget(1);
        Due.is("33: forgotten is not had", h.run(), 1);
        HatDraw two = Due.office("n11 n22");
        Due.is("33: back", two.run(), 0);
        two.rules(2);
        Due.is("33: once", two.run(), 1);
        Due.is("33: without mates", new HatDraw().run(), 0);
    }

    private static void runsToTheEnd() {
        HatDraw h = Due.office("m11 m22 m33 m44 m55 m66");
        h.rules(0);
        Due.is("33: thirty at most", h.run(), 30);
        HatDraw four = Due.office("m11 m22 m33 m44");
        four.rules(0);
        Due.is("33: all nine", four.run(), 9);
        four.rules(2);
        Due.is("33: with years", four.run(), new ByHand().run());
    }

    /** The nine drawings of four, gone through by hand. */
    private static final class ByHand {
        private final String[] nine = {"1032", "1230", "1302", "2031", "2301", "2310", "3012", "3201", "3210"};
        private final boolean[] had = new boolean[9];

        int run() {
            String latest = "....";
            for (int k = 0;; k++) {
                int next = -1;
                for (int i = 8; i >= 0; i--) {
                    if (!had[i] && unlike(nine[i], latest)) {
                        next = i;
                    }
                }
                if (next < 0) {
                    return k;
                }
                had[next] = true;
                latest = nine[next];
            }
        }

        private static boolean unlike(String a, String b) {
            for (int i = 0; i < 4; i++) {
                if (a.charAt(i) == b.charAt(i)) {
                    return false;
                }
            }
            return true;
        }
    }

    private static void times() {
        HatDraw h = Due.office("m11 m22 m33");
        Due.is("34: no years", h.times(0, 1), 0);
        Due.lay(h, 0, 1, 2, 0);
        Due.lay(h, 1, 1, 0, 2);
        h.year(0);
        h.year(1);
        Due.is("34: twice", h.times(0, 1), 2);
        Due.is("34: once", h.times(1, 0), 1);
        Due.is("34: once, too", h.times(1, 2), 1);
        Due.is("34: never", h.times(2, 1), 0);
        Due.is("34: BAD oneself", h.times(2, 2), HatDraw.BAD);
        int[][] bad = {{-1, 0}, {3, 0}, {0, -1}, {0, 3}};
        for (int[] b : bad) {
            Due.is("34: BAD", h.times(b[0], b[1]), HatDraw.BAD);
        }
    }
}
