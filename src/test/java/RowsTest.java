/** Promises 1 to 10: a new object, rows and texts. */
public final class RowsTest {
    private static final int NOTHING = 1, BEYOND = 2, NOUGHT = 4, SIZE = 5;

    public static void main(String[] args) {
        newObject();
        rows();
        layAndAt();
        tear();
        copy();
        copyRefused();
        mean();
        texts();
        puts();
        faults();
        Due.end();
    }

    private static void newObject() {
        HatDraw h = new HatDraw();
        for (int what = 0; what <= 7; what++) {
            Due.is("1: count " + what, h.count(what), 0);
        }
        Due.is("1: rules", h.rules(7), 7);
        Due.is("1: asked", h.asked(), 0);
        Due.is("1: finding", h.finding(), 0);
        Due.fraction("1", h, 0, 1);
        Due.is("1: ways without mates", h.ways(), 1);
    }

    private static void rows() {
        HatDraw h = new HatDraw();
        Due.is("2: none", h.row(0, 0), 0);
        Due.is("2: most", h.row(5, 40), 40);
        Due.told("2: last place", h, h.at(5, 39), 0);
        h.lay(5, 39, 7);
        Due.is("2: anew", h.row(5, 40), 40);
        Due.told("2: is 0 again", h, h.at(5, 39), 0);
        Due.is("2: too many", h.row(0, 41), HatDraw.BAD);
        Due.is("2: no row below", h.row(-1, 3), HatDraw.BAD);
        Due.is("2: no row above", h.row(6, 3), HatDraw.BAD);
        Due.is("2: BAD ahead of SIZE", h.row(6, -1), HatDraw.BAD);
        Due.is("2: no finding yet", h.finding(), 0);
        Due.refused("2: fewer than none", h, h.digest(), h.row(0, -1), SIZE);
        Due.is("2: rows there", h.count(6), 2);
    }

    private static void layAndAt() {
        HatDraw h = new HatDraw();
        h.row(2, 3);
        Due.told("3: first", h, h.lay(2, 1, -2147483648), 0);
        Due.told("3: what it was", h, h.lay(2, 1, 5), -2147483648);
        Due.told("4: at", h, h.at(2, 1), 5);
        Due.told("4: another", h, h.at(2, 0), 0);
        h.at(2, 1);
        long before = h.digest();
        Due.is("3: BAD", h.lay(6, 0, 1), HatDraw.BAD);
        Due.is("3: BAD below", h.lay(-1, 0, 1), HatDraw.BAD);
        Due.refused("3: NOTHING", h, before, h.lay(0, 9, 1), NOTHING);
        Due.refused("3: BEYOND above", h, before, h.lay(2, 3, 1), BEYOND);
        Due.refused("3: BEYOND below", h, before, h.lay(2, -1, 1), BEYOND);
        Due.is("4: BAD", h.at(6, 0), HatDraw.BAD);
        Due.is("4: BAD below", h.at(-1, 0), HatDraw.BAD);
        Due.refused("4: NOTHING", h, before, h.at(0, -1), NOTHING);
        Due.refused("4: BEYOND above", h, before, h.at(2, 3), BEYOND);
        Due.refused("4: BEYOND below", h, before, h.at(2, -2147483648), BEYOND);
        Due.is("45: refused calls tell nothing", h.asked(), 5);
    }

    private static void tear() {
        HatDraw h = new HatDraw();
        h.row(0, 2);
        Due.is("5: tear", h.tear(0), 1);
        Due.is("5: missing", h.at(0, 0), HatDraw.FINDING);
        Due.refused("5: NOTHING", h, h.digest(), h.tear(0), NOTHING);
        Due.is("5: BAD below", h.tear(-1), HatDraw.BAD);
        Due.is("5: BAD above", h.tear(6), HatDraw.BAD);
        Due.is("5: none there", h.count(6), 0);
    }

    private static void copy() {
        HatDraw h = new HatDraw();
        Due.lay(h, 0, 1, 2, 3, 4, 5);
        Due.lay(h, 1, 0, 0, 0);
        Due.is("6: to another", h.copy(0, 1, 1, 0, 3), 1);
        Due.holds("6: came", h, 1, 2, 3, 4);
        Due.is("6: onward in itself", h.copy(0, 0, 0, 1, 4), 1);
        Due.holds("6: as if taken ahead", h, 0, 1, 1, 2, 3, 4);
        Due.is("6: back in itself", h.copy(0, 1, 0, 0, 4), 1);
        Due.holds("6: as if taken ahead, back", h, 0, 1, 2, 3, 4, 4);
        Due.is("6: none at the end", h.copy(0, 5, 1, 3, 0), 1);
        Due.holds("6: none came", h, 1, 2, 3, 4);
        Due.is("45: copy tells nothing", h.asked(), 4);
    }

    private static void copyRefused() {
        HatDraw h = new HatDraw();
        Due.lay(h, 0, 1, 2, 3);
        Due.lay(h, 1, 4, 5);
        long before = h.digest();
        Due.is("6: BAD from", h.copy(6, 0, 1, 0, -1), HatDraw.BAD);
        Due.is("6: BAD to", h.copy(0, 0, -1, 0, -1), HatDraw.BAD);
        Due.refused("6: SIZE ahead of NOTHING", h, before, h.copy(2, 0, 3, 0, -1), SIZE);
        Due.refused("6: NOTHING from, ahead of BEYOND", h, before, h.copy(2, 9, 0, 0, 1), NOTHING);
        Due.refused("6: NOTHING to", h, before, h.copy(0, 0, 2, 0, 1), NOTHING);
        Due.refused("6: BEYOND from", h, before, h.copy(0, 2, 1, 0, 2), BEYOND);
        Due.refused("6: BEYOND to", h, before, h.copy(0, 0, 1, 0, 3), BEYOND);
        Due.refused("6: BEYOND below", h, before, h.copy(0, -1, 1, 0, 1), BEYOND);
        Due.refused("6: BEYOND, none, i above", h, before, h.copy(0, 4, 1, 0, 0), BEYOND);
        Due.refused("6: BEYOND, none, j above", h, before, h.copy(0, 0, 1, 3, 0), BEYOND);
        Due.refused("6: BEYOND, none, i below", h, before, h.copy(0, -1, 1, 0, 0), BEYOND);
        Due.refused("6: BEYOND, none, j below", h, before, h.copy(0, 0, 1, -1, 0), BEYOND);
        Due.refused("6: BEYOND, huge", h, before, h.copy(0, 1, 1, 1, 2147483647), BEYOND);
        Due.refused("6: BEYOND, far", h, before, h.copy(0, 2147483647, 1, 1, 2147483647), BEYOND);
    }

    private static void mean() {
        HatDraw h = new HatDraw();
        Due.lay(h, 0, 1, 2, 4);
        Due.told("7: cut", h, h.mean(0), 2);
        Due.lay(h, 0, -1, -2, -4);
        Due.told("7: cut towards 0", h, h.mean(0), -2);
        Due.lay(h, 0, 2147483647, 2147483647, 2147483647);
        Due.told("7: great ones", h, h.mean(0), 2147483647);
        Due.lay(h, 0, -2147483648, -2147483648);
        Due.told("7: small ones", h, h.mean(0), -2147483648);
        h.row(3, 40);
        h.lay(3, 39, 80);
        Due.told("7: forty", h, h.mean(3), 2);
        h.row(1, 0);
        Due.refused("7: NOUGHT", h, h.digest(), h.mean(1), NOUGHT);
        Due.refused("7: NOTHING", h, h.digest(), h.mean(2), NOTHING);
        Due.is("7: BAD above", h.mean(6), HatDraw.BAD);
        Due.is("7: BAD below", h.mean(-1), HatDraw.BAD);
    }

    private static void texts() {
        HatDraw h = new HatDraw();
        Due.is("8: none", h.text(0, 0), 0);
        Due.is("8: most", h.text(3, 60), 60);
        Due.is("8: blanks", h.put(3, 59, 65), 1032);
        Due.is("8: anew", h.text(3, 60), 60);
        Due.is("8: blanks again", h.put(3, 59, 65), 1032);
        Due.is("8: too many", h.text(0, 61), HatDraw.BAD);
        Due.is("8: BAD below", h.text(-1, 1), HatDraw.BAD);
        Due.is("8: BAD above", h.text(4, -1), HatDraw.BAD);
        Due.refused("8: SIZE", h, h.digest(), h.text(0, -1), SIZE);
        Due.is("8: texts there", h.count(7), 2);
    }

    private static void puts() {
        HatDraw h = new HatDraw();
        h.text(1, 2);
        Due.is("9: first", h.put(1, 0, 300), 1032);
        Due.is("9: cut to a byte", h.put(1, 0, 128), 1044);
        Due.is("9: below 0", h.put(1, 0, 127), 872);
        Due.is("9: as it is", h.put(1, 0, 0), 1127);
        long before = h.digest();
        Due.is("9: BAD below", h.put(-1, 0, 1), HatDraw.BAD);
        Due.is("9: BAD above", h.put(4, 0, 1), HatDraw.BAD);
        Due.refused("9: NOTHING", h, before, h.put(0, 7, 1), NOTHING);
        Due.refused("9: BEYOND above", h, before, h.put(1, 2, 1), BEYOND);
        Due.refused("9: BEYOND below", h, before, h.put(1, -1, 1), BEYOND);
    }

    private static void faults() {
        HatDraw h = new HatDraw();
        String[] sound = {"", "   ", "m00", "  p99  ", "m12b23", "m12 b23  n15 s34 c37 p42", "m11m11m11m11m11m11  "};
        for (String letters : sound) {
            Due.write(h, 0, letters);
            Due.is("10: '" + letters + "'", h.fault(0), HatDraw.NONE);
        }
        String[] faulty = {"x12", " M12", "m1", "m", "mm1", "m 12", "m1 2", "m12 b", "m12 b2", "m12x", "m121", "m/2", "m1:",
            "m11m11m11m11m11m11 m11", "m11m11m11m11m11m11 x", "m11 m11 m11 m11 m11 m11m"};
        int[] places = {0, 1, 2, 1, 1, 1, 2, 5, 6, 3, 3, 1, 2, 19, 19, 23};
        for (int k = 0; k < faulty.length; k++) {
            Due.write(h, 0, faulty[k]);
            Due.is("10: '" + faulty[k] + "'", h.fault(0), places[k]);
        }
        h.text(1, 60);
        Due.is("10: sixty blanks", h.fault(1), HatDraw.NONE);
        h.put(1, 59, 109);
        Due.is("10: a letter at the end", h.fault(1), 60);
        h.put(1, 58, 109);
        h.put(1, 59, 49);
        Due.is("10: a table at the end", h.fault(1), 60);
        Due.write(h, 0, "m12");
        h.put(0, 0, -19);
        Due.is("10: a byte below 0", h.fault(0), 0);
        Due.refused("10: NOTHING", h, h.digest(), h.fault(2), NOTHING);
        Due.is("10: BAD below", h.fault(-1), HatDraw.BAD);
        Due.is("10: BAD above", h.fault(4), HatDraw.BAD);
    }
}
