/** Promises 45 to 51: what is told. */
public final class ToldTest {
    public static void main(String[] args) {
        asked();
        fractions();
        counts();
        findings();
        digests();
        digestsOfAllParts();
        Due.end();
    }

    private static void asked() {
        HatDraw h = Due.office("m11 m22 m33 m44");
        Due.is("45: before", h.asked(), 0);
        Due.lay(h, 0, 9, 9, 9, 9);
        h.lay(0, 0, 1);
        Due.is("45: lay", h.asked(), 9);
        h.at(0, 0);
        Due.is("45: at", h.asked(), 1);
        h.mean(0);
        Due.is("45: mean", h.asked(), 7);
        h.mate(1, 2);
        Due.is("45: mate", h.asked(), 2);
        Due.lay(h, 0, 1, 0, 3, 2);
        h.judge(0);
        Due.is("45: judge", h.asked(), 5);
        h.can();
        Due.is("45: can", h.asked(), 6);
        h.rings(0);
        Due.is("45: rings", h.asked(), 2);
        h.gain(0, 0);
        Due.is("45: gain", h.asked(), 1);
        h.drop();
        Due.is("45: drop", h.asked(), 7);
        h.table(0);
        Due.is("45: table", h.asked(), 6);
        h.nth(0, 0);
        h.still(0, 1);
        Due.is("45: still, all fit", h.asked(), 6);
        h.fewest(0);
        Due.is("45: fewest", h.asked(), 3);
        long before = h.digest();
        h.ways();
        h.number(0);
        h.lot(3, 1);
        h.turns(0, 1);
        h.alike(0, 1);
        h.ringed(1);
        h.even(1);
        h.fits(0, 0);
        h.known(0, 0);
        h.run();
        h.play(1);
        h.finding();
        h.digest();
        Due.is("45: others tell nothing", h.asked(), 3);
        Due.is("51: the hat is in it", h.digest() == before ? 1 : 0, 0);
    }

    private static void fractions() {
        HatDraw h = Due.office("m11 m22 m33 m44");
        Due.fraction("46, 47: before", h, 0, 1);
        h.alike(0, 1);
        Due.fraction("46, 47: alike", h, 1, 3);
        h.turns(0, 0);
        Due.fraction("46, 47: turns", h, 0, 1);
        h.ringed(1);
        Due.fraction("46, 47: ringed", h, 1, 1);
        h.ringed(7);
        h.ways();
        Due.fraction("46, 47: stay", h, 1, 1);
    }

    private static void counts() {
        HatDraw h = Due.office("m11 b22 p33 n44 c55 s66");
        h.rules(0);
        h.row(0, 6);
        h.row(3, 0);
        h.text(2, 0);
        h.draw(1);
        h.keep(1);
        Due.lay(h, 5, 1, 2, 3, 4, 5, 0);
        h.year(5);
        int[] due = {6, 1, 1, 2, 2, 1, 3, 2};
        for (int what = 0; what < 8; what++) {
            Due.is("48: count " + what, h.count(what), due[what]);
        }
        Due.is("48: BAD below", h.count(-1), HatDraw.BAD);
        Due.is("48: BAD above", h.count(8), HatDraw.BAD);
    }

    private static void findings() {
        HatDraw h = Due.office("m11 m22");
        Due.is("49: before", h.finding(), 0);
        h.at(0, 0);
        h.at(0, 0);
        Due.is("49: NOTHING", h.finding(), 1);
        h.row(0, 0);
        h.at(0, 0);
        Due.is("49: BEYOND", h.finding(), 2);
        h.mark(0, 1);
        Due.is("49: UNLIKE", h.finding(), 3);
        h.mean(0);
        Due.is("49: NOUGHT", h.finding(), 4);
        h.row(0, -1);
        h.text(0, -1);
        h.judge(0);
        Due.is("49: SIZE", h.finding(), 5);
        h.at(9, 9);
        h.keep(5);
        h.even(0);
        Due.is("49: the latest stays", h.finding(), 5);
        int[] due = {2, 1, 1, 1, 3};
        for (int f = 1; f <= 5; f++) {
            Due.is("50: findings " + f, h.findings(f), due[f - 1]);
        }
        Due.is("50: BAD below", h.findings(0), HatDraw.BAD);
        Due.is("50: BAD above", h.findings(6), HatDraw.BAD);
        Due.is("50: asking is no finding", h.finding(), 5);
    }

    private static long digestOf(int... ints) {
        long h = 17;
        for (int v : ints) {
            h = 31 * h + v;
        }
        return h;
    }

    private static void digests() {
        HatDraw h = new HatDraw();
        Due.is("51: new", h.digest(), digestOf(0, 0, 0, 0, 0, 0, 0, 0, 7, -1, -1, -1, -1, -1, -1, -1, -1, -1, -1, -1, -1, -1));
        h.row(1, 2);
        h.lay(1, 0, -5);
        h.text(2, 1);
        h.put(2, 0, 200);
        h.lay(1, 1, 6);
        Due.is("51: rows, texts", h.digest(),
            digestOf(0, 0, 0, 0, 0, 0, 1, 1, 7, -1, -1, -1, -1, 2, -5, 6, -1, -1, -1, -1, -1, -1, 1, -56, -1));
        Due.is("51: asked stays", h.asked(), 0);
    }

    private static void digestsOfAllParts() {
        HatDraw h = Due.office("n12 p34 m56");
        h.rules(0);
        h.draw(2);
        h.keep(1);
        h.draw(0);
        Due.lay(h, 0, 2, 1, 0);
        h.year(0);
        h.lay(0, 0, 1);
        h.lay(0, 1, 2);
        h.year(0);
        h.tear(0);
        h.text(0, 0);
        h.at(4, 4);
        Due.is("51: all", h.digest(), digestOf(3, 2, 2, 1, 1, 1, 0, 1, 0,
            2, 1, 2, 1, 5, 3, 4, 2, 0, 5, 6, 0,
            2, 0,
            2, 1, 0, 1, 2, 0,
            -1, 1, -1,
            -1, -1, -1, -1, -1, -1,
            0, -1, -1, -1));
    }
}
