/** Promises 17 to 21: drawings judged, counted, told, drawn by lot. */
public final class DrawingsTest {
    private static final int NOTHING = 1, UNLIKE = 3, NOUGHT = 4, SIZE = 5;

    public static void main(String[] args) {
        judged();
        judgedByTheFirst();
        judgedByRing();
        judgeRefused();
        judgedWithoutMates();
        ways();
        nth();
        number();
        lots();
        Due.end();
    }

    private static void judge(String what, HatDraw h, int who, int why, int... ints) {
        Due.lay(h, 0, ints);
        Due.is("17: " + what, h.judge(0), who);
        Due.is("17: " + what + ", by", h.asked(), why);
    }

    private static void judged() {
        HatDraw h = Due.office("m11 m12 b25 s22 n34 c34");
        judge("oneself", h, 0, 1, 0, 1, 2, 3, 4, 5);
        judge("tables", h, 0, 3, 1, 2, 3, 4, 5, 0);
        judge("kinds ahead of tables: a boss of its own", h, 3, 2, 5, 4, 1, 2, 3, 0);
        judge("shy", h, 2, 2, 5, 4, 3, 1, 0, 2);
        judge("back", h, 0, 5, 2, 3, 0, 1, 5, 4);
        judge("back, a cashier may", h, 1, 5, 5, 3, 4, 1, 2, 0);
        judge("none", h, 6, 0, 2, 3, 4, 5, 0, 1);
    }

    private static void judgedByTheFirst() {
        HatDraw h = Due.office("m11 m22 m33 n44 c55");
        Due.lay(h, 1, 1, 2, 3, 4, 0);
        h.year(1);
        judge("years", h, 0, 4, 1, 2, 3, 4, 0);
        judge("years, the next one", h, 1, 4, 3, 2, 4, 1, 0);
        judge("years ahead of back", h, 0, 4, 1, 0, 3, 4, 2);
        judge("back, in another year", h, 0, 5, 2, 3, 0, 4, 1);
        h.rules(1);
        judge("no years", h, 5, 0, 1, 2, 3, 4, 0);
        h.rules(2);
        judge("years do not bar new ones", h, 5, 0, 2, 3, 1, 4, 0);
        h.rules(7);
        judge("oneself behind", h, 4, 1, 2, 3, 1, 0, 4);
    }

    private static void judgedByRing() {
        HatDraw h = Due.office("m11 m22 m33 m44 m55");
        h.rules(8);
        judge("one ring", h, 5, 0, 1, 2, 3, 4, 0);
        judge("two rings", h, 0, 6, 1, 0, 3, 4, 2);
        judge("another one ahead of the ring", h, 4, 1, 1, 0, 3, 2, 4);
        h.rules(9);
        judge("back ahead of the ring", h, 2, 5, 1, 4, 3, 2, 0);
    }

    private static void judgeRefused() {
        HatDraw h = Due.office("m11 m22 m33");
        Due.is("17: BAD below", h.judge(-1), HatDraw.BAD);
        Due.is("17: BAD above", h.judge(6), HatDraw.BAD);
        Due.refused("17: NOTHING", h, h.digest(), h.judge(0), NOTHING);
        Due.lay(h, 0, 1, 2);
        Due.refused("17: SIZE, too few", h, h.digest(), h.judge(0), SIZE);
        Due.lay(h, 0, 1, 2, 0, 0);
        Due.refused("17: SIZE, too many", h, h.digest(), h.judge(0), SIZE);
        int[][] unlike = {{1, 2, 3}, {1, 2, -1}, {1, 1, 0}, {1, 2, 2147483647}, {-2147483648, 1, 2}, {8, 1, 2}, {32, 1, 2}};
        for (int[] ints : unlike) {
            Due.lay(h, 0, ints);
            Due.refused("17: UNLIKE", h, h.digest(), h.judge(0), UNLIKE);
        }
    }

    private static void judgedWithoutMates() {
        HatDraw h = new HatDraw();
        h.rules(15);
        judge("without mates", h, 0, 0);
        Due.is("18: without mates", h.ways(), 1);
        Due.is("20: without mates", h.number(0), 0);
        Due.is("19: without mates", h.nth(0, 1), 1);
        Due.is("19: an empty row", h.row(1, 0), 0);
        Due.is("19: no second one", h.nth(1, 1), HatDraw.FINDING);
        Due.is("21: without mates", h.lot(4, 2), 0);
        Due.is("21: a row came", h.count(6), 3);
        Due.is("10: six", h.text(0, 3), 3);
        Due.is("11: still none", h.office(0), 0);
    }

    private static void ways() {
        int[] loose = {1, 0, 1, 2, 9, 44, 265};
        int[] rings = {1, 0, 1, 2, 6, 24, 120};
        int[] noPairs = {1, 0, 0, 2, 6, 24, 160};
        for (int n = 0; n <= 6; n++) {
            StringBuilder letters = new StringBuilder();
            for (int x = 0; x < n; x++) {
                letters.append('m').append(x).append(x);
            }
            HatDraw h = Due.office(letters.toString());
            Due.is("18: first rules " + n, h.ways(), noPairs[n]);
            h.rules(0);
            Due.is("18: no rules " + n, h.ways(), loose[n]);
            h.rules(8);
            Due.is("18: rings " + n, h.ways(), rings[n]);
        }
        HatDraw h = Due.office("m11 m12 m23 m24");
        h.rules(4);
        Due.is("18: two tables of two", h.ways(), 4);
        h.move(0, 2);
        Due.is("18: three at a table", h.ways(), 0);
    }

    private static void nth() {
        HatDraw h = Due.office("m11 m22 m33");
        Due.is("19: first", h.nth(0, 4), 1);
        Due.holds("19: first", h, 4, 1, 2, 0);
        h.row(4, 40);
        Due.is("19: second", h.nth(1, 4), 1);
        Due.holds("19: second, anew", h, 4, 2, 0, 1);
        long before = h.digest();
        Due.refused("19: NOUGHT", h, before, h.nth(2, 4), NOUGHT);
        Due.is("19: BAD number", h.nth(-1, 4), HatDraw.BAD);
        Due.is("19: BAD row below", h.nth(0, -1), HatDraw.BAD);
        Due.is("19: BAD row above, ahead of NOUGHT", h.nth(9, 6), HatDraw.BAD);
        h.rules(0);
        Due.is("19: other rules", h.nth(1, 0), 1);
        Due.holds("19: other rules", h, 0, 2, 0, 1);
    }

    private static void number() {
        HatDraw h = Due.office("m11 m22 m33 m44");
        h.rules(0);
        Due.lay(h, 0, 1, 0, 3, 2);
        Due.is("20: first", h.number(0), 0);
        Due.lay(h, 0, 3, 2, 1, 0);
        Due.is("20: last", h.number(0), 8);
        h.rules(1);
        int found = h.finding();
        Due.is("20: not right", h.number(0), HatDraw.NONE);
        Due.is("20: NONE is no finding", h.finding(), found);
        Due.lay(h, 0, 3, 2, 0, 1);
        Due.is("20: last of six", h.number(0), 5);
        h.rules(0);
        Due.lay(h, 1, 2, 3, 0, 1);
        Due.is("20: fifth", h.number(1), 4);
        h.year(1);
        h.rules(2);
        Due.is("18: four are left by years", h.ways(), 4);
        Due.is("20: that of the year is not", h.number(1), HatDraw.NONE);
        Due.is("20: BAD below", h.number(-1), HatDraw.BAD);
        Due.is("20: BAD above", h.number(6), HatDraw.BAD);
        Due.refused("20: NOTHING", h, h.digest(), h.number(5), NOTHING);
        h.lay(0, 0, 2);
        Due.refused("20: UNLIKE", h, h.digest(), h.number(0), UNLIKE);
        h.row(0, 3);
        Due.refused("20: SIZE", h, h.digest(), h.number(0), SIZE);
    }

    private static void lots() {
        HatDraw h = Due.office("m11 m22 m33 m44");
        h.rules(0);
        // 48271 modulo 9 is 4, 2 * 48271 modulo 9 is 8
        Due.is("21: seed 1", h.lot(1, 0), 4);
        Due.is("21: came", h.number(0), 4);
        Due.is("21: seed 2", h.lot(2, 0), 8);
        Due.holds("21: the last one", h, 0, 3, 2, 1, 0);
        // the modulus less 48271: 2147435376, modulo 9 it is 6
        Due.is("21: greatest seed", h.lot(2147483646, 0), 2147435376 % 9);
        Due.is("21: BAD seed 0", h.lot(0, 0), HatDraw.BAD);
        Due.is("21: BAD seed below", h.lot(-5, 0), HatDraw.BAD);
        Due.is("21: BAD seed above", h.lot(2147483647, 0), HatDraw.BAD);
        Due.is("21: BAD row below", h.lot(1, -1), HatDraw.BAD);
        Due.is("21: BAD row above", h.lot(1, 6), HatDraw.BAD);
        Due.write(h, 0, "m11");
        h.office(0);
        Due.is("21: BAD ahead of NOUGHT", h.lot(0, 0), HatDraw.BAD);
        Due.refused("21: NOUGHT", h, h.digest(), h.lot(1, 0), NOUGHT);
    }
}
