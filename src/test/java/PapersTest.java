/** Promises 22 to 30: papers one by one. */
public final class PapersTest {
    private static final int NOTHING = 1, NOUGHT = 4;

    public static void main(String[] args) {
        draws();
        drawsThatCannotComeOut();
        drawsBack();
        undoes();
        cans();
        turnsAndAlike();
        turnsFromAHat();
        turnsRefused();
        plays();
        playsOn();
        keeps();
        Due.end();
    }

    private static HatDraw four(int rules) {
        HatDraw h = Due.office("m11 m22 m33 m44");
        h.rules(rules);
        return h;
    }

    private static void draws() {
        HatDraw h = Due.office("m11 m22 m33");
        Due.is("24: not yet", h.drew(0), HatDraw.NONE);
        Due.is("22: oneself", h.draw(0), HatDraw.STATE);
        Due.is("22: first", h.draw(1), 1);
        long before = h.digest();
        Due.is("22: drawn", h.draw(1), HatDraw.STATE);
        Due.is("22: by back", h.draw(0), HatDraw.STATE);
        Due.is("22: unchanged", h.digest(), before);
        Due.is("22: STATE is no finding", h.finding(), 0);
        Due.is("22: second", h.draw(2), 2);
        Due.is("22: third", h.draw(0), 3);
        Due.is("22: all have drawn", h.draw(0), HatDraw.STATE);
        Due.is("22: BAD ahead of STATE", h.draw(3), HatDraw.BAD);
        Due.is("22: BAD below", h.draw(-1), HatDraw.BAD);
        Due.is("22: BAD without mates", new HatDraw().draw(0), HatDraw.BAD);
        Due.is("24: 0", h.drew(0), 1);
        Due.is("24: 1", h.drew(1), 2);
        Due.is("24: 2", h.drew(2), 0);
        Due.is("24: BAD below", h.drew(-1), HatDraw.BAD);
        Due.is("24: BAD above", h.drew(3), HatDraw.BAD);
        h = four(0);
        h.draw(3);
        Due.is("22: drawn by 0", h.draw(3), HatDraw.STATE);
        h.draw(2);
        Due.is("22: drawn by 1", h.draw(2), HatDraw.STATE);
        Due.is("22: drawn by 0, still", h.draw(3), HatDraw.STATE);
        h = Due.office("m11 m12 m33");
        Due.is("22: barred by tables", h.draw(1), HatDraw.STATE);
        Due.lay(h, 0, 2, 0, 1);
        h.year(0);
        Due.is("22: barred by years", h.draw(2), HatDraw.STATE);
        h.rules(4);
        Due.is("22: years are no rule", h.draw(2), 1);
    }

    private static void drawsThatCannotComeOut() {
        HatDraw h = Due.office("m11 m22 m33");
        h.rules(0);
        h.draw(1);
        Due.is("22: 2 is left alone, nobody asks", h.draw(0), 2);
        Due.is("25: whom", h.can(), 0);
        Due.is("25: none begins so", h.asked(), 0);
        Due.is("22: oneself", h.draw(2), HatDraw.STATE);
        h = four(8);
        h.draw(1);
        Due.is("22: against the ring, nobody asks", h.draw(0), 2);
        Due.is("25: no ring", h.can(), 0);
    }

    private static void drawsBack() {
        String[] offices = {"c11 m22 m33", "m11 c22 m33", "c11 c22 m33"};
        for (String letters : offices) {
            HatDraw h = Due.office(letters);
            h.draw(1);
            Due.is("22: a cashier of " + letters, h.draw(0), 2);
        }
        HatDraw h = Due.office("n11 p22 m33");
        h.draw(1);
        Due.is("22: neither is a cashier", h.draw(0), HatDraw.STATE);
        h.rules(6);
        Due.is("22: back is no rule", h.draw(0), 2);
    }

    private static void undoes() {
        HatDraw h = four(0);
        h.draw(1);
        h.draw(2);
        h.draw(3);
        Due.is("23: none", h.undo(3), 0);
        Due.is("23: BAD above", h.undo(4), HatDraw.BAD);
        Due.is("23: BAD below", h.undo(-1), HatDraw.BAD);
        Due.is("23: two", h.undo(1), 2);
        Due.is("23: one has drawn", h.count(1), 1);
        Due.is("23: stays", h.drew(0), 1);
        Due.is("23: gone", h.drew(1), HatDraw.NONE);
        Due.is("23: may be drawn again", h.draw(3), 2);
        Due.is("23: another than was", h.drew(1), 3);
        Due.is("23: all", h.undo(0), 2);
        Due.is("23: none left", h.undo(0), 0);
        Due.is("23: without mates", new HatDraw().undo(0), 0);
    }

    private static void cans() {
        HatDraw h = four(0);
        Due.is("25: first", h.can(), 14);
        Due.is("25: of nine", h.asked(), 9);
        h.draw(2);
        Due.is("25: 0 or 3", h.can(), 9);
        Due.is("25: of three", h.asked(), 3);
        h.draw(3);
        h.draw(0);
        Due.is("25: 1 alone", h.can(), 2);
        h.draw(1);
        Due.is("25: all have drawn", h.can(), 0);
        Due.is("25: it came out", h.asked(), 1);
        h.rules(1);
        h.can();
        Due.is("25: not by other rules", h.asked(), 0);
        HatDraw two = Due.office("m11 m22");
        two.rules(0);
        Due.is("25: the only one", two.can(), 2);
        HatDraw none = new HatDraw();
        Due.is("25: without mates", none.can(), 0);
        Due.is("25: the empty one", none.asked(), 1);
    }

    private static void odds(HatDraw h, int x, int y, long[] turns, long[] alike) {
        Due.is("26: " + x + " " + y, h.turns(x, y), 1);
        Due.fraction("26: " + x + " " + y, h, turns[0], turns[1]);
        Due.is("27: " + x + " " + y, h.alike(x, y), 1);
        Due.fraction("27: " + x + " " + y, h, alike[0], alike[1]);
    }

    private static void turnsAndAlike() {
        HatDraw h = four(0);
        long[] none = {0, 1};
        long[] third = {1, 3};
        odds(h, 0, 0, none, none);
        odds(h, 0, 1, third, third);
        // 0 draws 1: three are left to 1, else two
        odds(h, 1, 0, new long[] {4, 9}, third);
        odds(h, 1, 3, new long[] {5, 18}, third);
        odds(h, 3, 0, new long[] {5, 18}, third);
        odds(h, 2, 3, new long[] {7, 18}, third);
    }

    private static void turnsFromAHat() {
        HatDraw h = four(0);
        h.draw(2);
        long[] none = {0, 1};
        long[] sure = {1, 1};
        odds(h, 0, 2, sure, sure);
        odds(h, 0, 1, none, none);
        odds(h, 1, 0, new long[] {1, 2}, new long[] {1, 3});
        odds(h, 2, 0, new long[] {1, 4}, new long[] {1, 3});
        odds(h, 3, 1, new long[] {3, 4}, new long[] {2, 3});
        odds(h, 3, 2, none, none);
        h.draw(0);
        h.draw(3);
        h.draw(1);
        odds(h, 3, 1, sure, sure);
        odds(h, 3, 0, none, none);
    }

    private static void turnsRefused() {
        HatDraw h = four(0);
        h.turns(1, 0);
        int[][] bad = {{-1, 0}, {4, 0}, {0, -1}, {0, 4}};
        for (int[] b : bad) {
            Due.is("26: BAD", h.turns(b[0], b[1]), HatDraw.BAD);
            Due.is("27: BAD", h.alike(b[0], b[1]), HatDraw.BAD);
        }
        h.draw(1);
        h.draw(0);
        h.rules(1);
        Due.refused("26: NOUGHT", h, h.digest(), h.turns(0, 1), NOUGHT);
        Due.refused("27: NOUGHT", h, h.digest(), h.alike(0, 1), NOUGHT);
        Due.fraction("46, 47: stay", h, 4, 9);
        h.rules(0);
        h.draw(3);
        h.draw(2);
        h.rules(1);
        Due.refused("26: NOUGHT, all have drawn", h, h.digest(), h.turns(0, 1), NOUGHT);
        Due.refused("27: NOUGHT, all have drawn", h, h.digest(), h.alike(0, 1), NOUGHT);
    }

    private static void drewAll(String what, HatDraw h, int... ints) {
        for (int x = 0; x < ints.length; x++) {
            Due.is(what + ": drew " + x, h.drew(x), ints[x]);
        }
    }

    private static void plays() {
        HatDraw h = four(0);
        // lots of 1: 48271 (1 modulo 3), 182605794 (0 modulo 2); then one choice each
        Due.is("28: seed 1", h.play(1), 4);
        drewAll("28: seed 1", h, 2, 0, 3, 1);
        Due.is("28: all have drawn", h.play(2), 4);
        drewAll("28: stays", h, 2, 0, 3, 1);
        h.undo(0);
        // 96542 (2 modulo 3), 365211588 (0 modulo 2)
        Due.is("28: seed 2", h.play(2), 4);
        drewAll("28: seed 2", h, 3, 0, 1, 2);
        Due.is("28: BAD 0", h.play(0), HatDraw.BAD);
        Due.is("28: BAD below", h.play(-1), HatDraw.BAD);
        Due.is("28: BAD above", h.play(2147483647), HatDraw.BAD);
        Due.is("28: greatest seed", h.play(2147483646), 4);
        Due.is("28: without mates", new HatDraw().play(1), 0);
    }

    private static void playsOn() {
        HatDraw h = four(0);
        h.draw(2);
        Due.is("28: from a hat", h.play(1), 4);
        drewAll("28: from a hat", h, 2, 3, 0, 1);
        h = Due.office("m11 m22 m33 m44 m55 m66");
        Due.is("28: six", h.play(1), 6);
        h.can();
        Due.is("28: it came out", h.asked(), 1);
        h = four(0);
        h.draw(1);
        h.draw(0);
        h.rules(1);
        Due.is("28: it can't come out", h.play(1), 2);
        Due.is("28: as many as had", h.count(1), 2);
        Due.is("28: none at all", Due.office("m11").play(1), 0);
    }

    private static void keeps() {
        HatDraw none = new HatDraw();
        Due.is("29: STATE", none.keep(0), HatDraw.STATE);
        Due.is("29: BAD ahead of STATE", none.keep(3), HatDraw.BAD);
        HatDraw h = four(1);
        Due.is("29: an empty hat", h.keep(0), 0);
        h.draw(2);
        h.draw(3);
        h.rules(9);
        Due.is("29: two", h.keep(2), 2);
        Due.is("29: kept hats", h.count(5), 2);
        h.draw(1);
        h.rules(0);
        h.move(3, 8);
        Due.is("30: on", h.on(2), 2);
        drewAll("30: on", h, 2, 3, HatDraw.NONE, HatDraw.NONE);
        Due.told("30: tables stay", h, h.mate(3, 1), 8);
        Due.is("30: rules as kept", h.rules(4), 9);
        Due.is("30: another", h.on(0), 0);
        Due.is("30: its rules", h.rules(1), 1);
        Due.is("30: it is empty", h.drew(0), HatDraw.NONE);
        Due.is("30: kept still", h.on(2), 2);
        Due.refused("30: NOTHING", h, h.digest(), h.on(1), NOTHING);
        Due.is("30: BAD below", h.on(-1), HatDraw.BAD);
        Due.is("30: BAD above", h.on(3), HatDraw.BAD);
        Due.is("29: BAD below", h.keep(-1), HatDraw.BAD);
        Due.is("29: BAD above", h.keep(3), HatDraw.BAD);
        h.undo(0);
        Due.is("29: kept anew", h.keep(2), 0);
        Due.is("30: the newer one", h.on(2), 0);
        h = four(0);
        h.keep(0);
        h.rules(1);
        Due.is("18: by back", h.ways(), 6);
        h.on(0);
        Due.is("30: ways by the rules kept", h.ways(), 9);
    }
}
