/** Promises 11 to 16: offices, mates, rules, tables. */
public final class OfficeTest {
    private static final int NOTHING = 1, UNLIKE = 3;

    public static void main(String[] args) {
        offices();
        anew();
        mates();
        marks();
        marksOfYears();
        marksOfBarred();
        rules();
        moves();
        mayByKinds();
        mayByRules();
        Due.end();
    }

    private static void offices() {
        HatDraw h = new HatDraw();
        Due.write(h, 1, " m12b23 ");
        Due.is("11: two", h.office(1), 2);
        Due.write(h, 2, "   ");
        Due.is("11: none", h.office(2), 0);
        Due.is("11: no mates", h.count(0), 0);
        h.office(1);
        Due.write(h, 0, "m1");
        long before = h.digest();
        Due.is("11: STATE", h.office(0), HatDraw.STATE);
        Due.is("11: STATE is no finding", h.finding(), 0);
        Due.is("11: unchanged", h.digest(), before);
        Due.refused("11: NOTHING", h, before, h.office(3), NOTHING);
        Due.is("11: BAD below", h.office(-1), HatDraw.BAD);
        Due.is("11: BAD above", h.office(4), HatDraw.BAD);
        Due.is("11: mates stay", h.count(0), 2);
    }

    private static void anew() {
        HatDraw h = Due.office("m11m22m33");
        h.rules(2);
        Due.lay(h, 0, 1, 2, 0);
        h.year(0);
        h.draw(2);
        h.keep(1);
        h.move(0, 9);
        Due.is("11: anew", h.office(0), 3);
        Due.is("11: empty hat", h.count(1), 0);
        Due.is("11: nobody drew", h.drew(0), HatDraw.NONE);
        Due.is("11: no years", h.count(2), 0);
        Due.is("11: no kept hats", h.count(5), 0);
        Due.is("11: kept is missing", h.on(1), HatDraw.FINDING);
        Due.told("11: table by the text", h, h.mate(0, 1), 1);
        Due.is("11: rules stay", h.rules(7), 2);
        Due.is("11: all may", h.may(0), 6);
    }

    private static void mates() {
        HatDraw h = Due.office("m12 b23 n15 s34 c07 p92");
        int[][] facts = {{0, 1, 2}, {1, 2, 3}, {2, 1, 5}, {3, 3, 4}, {4, 0, 7}, {5, 9, 2}};
        for (int x = 0; x < 6; x++) {
            for (int what = 0; what < 3; what++) {
                Due.told("12: mate " + x + " " + what, h, h.mate(x, what), facts[x][what]);
            }
            Due.told("12: without a year", h, h.mate(x, 3), HatDraw.NONE);
        }
        Due.lay(h, 0, 1, 0, 3, 2, 5, 4);
        h.year(0);
        Due.lay(h, 0, 5, 4, 3, 2, 1, 0);
        h.year(0);
        Due.told("12: latest year", h, h.mate(1, 3), 4);
        Due.is("12: BAD mate below", h.mate(-1, 0), HatDraw.BAD);
        Due.is("12: BAD mate above", h.mate(6, 0), HatDraw.BAD);
        Due.is("12: BAD what below", h.mate(0, -1), HatDraw.BAD);
        Due.is("12: BAD what above", h.mate(0, 4), HatDraw.BAD);
        Due.is("12: BAD without mates", new HatDraw().mate(0, 0), HatDraw.BAD);
        Due.is("12: asked stays", h.asked(), 4);
    }

    private static void marks() {
        HatDraw h = Due.office("m12 b13 n15 s14 c17 p22");
        // which mates are of which kind: a cashier is new, too, a porter a boss
        int[][] of = {{}, {1}, {2}, {3}, {2, 4}, {1, 5}};
        for (int x = 0; x < 6; x++) {
            for (int kind = 1; kind <= 5; kind++) {
                boolean is = false;
                for (int k : of[x]) {
                    is |= k == kind;
                }
                if (!is) {
                    Due.refused("13: UNLIKE " + x + " " + kind, h, h.digest(), h.mark(x, kind), UNLIKE);
                } else {
                    Due.is("13: is " + x + " " + kind, h.mark(x, kind) >= 0 ? 1 : 0, 1);
                }
            }
        }
        Due.is("13: boss", h.mark(1, 1), 4);
        Due.is("13: porter as boss", h.mark(5, 1), 0);
        Due.is("13: shy, 5 and 7 are greater", h.mark(3, 3), 2);
        HatDraw shy = Due.office("m19 s10 s29 m20 m31");
        Due.is("13: all whose worth is greater", shy.mark(1, 3), 3);
        Due.is("13: none is", shy.mark(2, 3), 0);
        Due.is("13: BAD kind 0", h.mark(0, 0), HatDraw.BAD);
        Due.is("13: BAD kind below", h.mark(0, -1), HatDraw.BAD);
        Due.is("13: BAD kind above", h.mark(0, 6), HatDraw.BAD);
        Due.is("13: BAD mate below", h.mark(-1, 1), HatDraw.BAD);
        Due.is("13: BAD mate above", h.mark(6, 1), HatDraw.BAD);
    }

    private static void marksOfYears() {
        HatDraw h = Due.office("n11 m22 c33");
        Due.is("13: new without years", h.mark(0, 2), 0);
        Due.lay(h, 0, 1, 0, 2);
        h.year(0);
        Due.lay(h, 0, 2, 1, 0);
        h.year(0);
        Due.lay(h, 0, 1, 2, 0);
        h.year(0);
        Due.is("13: new, drawn back by 1, then by 2", h.mark(0, 2), 2);
        Due.is("13: cashier as new: by oneself, then by 0", h.mark(2, 2), 2);
    }

    private static void marksOfBarred() {
        HatDraw h = Due.office("c15 p11 m12 s33 c39");
        // 0 may not draw oneself, the porter of its table, its table's 2, the shy one below its worth
        Due.is("13: cashier", h.mark(0, 4), 1);
        Due.is("13: another cashier: 0, 1, 2", h.mark(4, 4), 3);
        // 0 and 2 are at the porter's table
        Due.is("13: porter", h.mark(1, 5), 2);
        h.rules(0);
        Due.is("13: cashier without rules: 2 and 4", h.mark(0, 4), 2);
        Due.is("13: porter by its kind alone", h.mark(1, 5), 2);
        h.move(1, 7);
        Due.is("13: porter alone", h.mark(1, 5), 0);
    }

    private static void rules() {
        HatDraw h = new HatDraw();
        Due.is("14: at first", h.rules(15), 7);
        Due.is("14: all", h.rules(0), 15);
        Due.is("14: BAD below", h.rules(-1), HatDraw.BAD);
        Due.is("14: BAD above", h.rules(16), HatDraw.BAD);
        Due.is("14: none", h.rules(3), 0);
    }

    private static void moves() {
        HatDraw h = Due.office("m11m12");
        Due.is("15: barred", h.may(0), 0);
        Due.is("15: was", h.move(1, 9), 1);
        Due.told("15: is", h, h.mate(1, 1), 9);
        Due.is("15: free", h.may(0), 2);
        Due.is("15: was 9", h.move(1, 0), 9);
        Due.is("15: BAD mate below", h.move(-1, 0), HatDraw.BAD);
        Due.is("15: BAD mate above", h.move(2, 0), HatDraw.BAD);
        Due.is("15: BAD table below", h.move(0, -1), HatDraw.BAD);
        Due.is("15: BAD table above", h.move(0, 10), HatDraw.BAD);
    }

    private static void mayByKinds() {
        HatDraw h = Due.office("m15 b13 p14 s24 s25 m25");
        h.rules(0);
        // 1 and 2 are bosses of the table of 0; 3 is shy of its worth
        Due.is("16: mate", h.may(0), 48);
        // of its table the boss may draw 0, not the porter
        Due.is("16: boss", h.may(1), 57);
        // the porter none of its table
        Due.is("16: porter", h.may(2), 56);
        Due.is("16: shy", h.may(3), 55);
        Due.is("16: a boss of another table", h.may(5), 23);
        Due.is("16: BAD below", h.may(-1), HatDraw.BAD);
        Due.is("16: BAD above", h.may(6), HatDraw.BAD);
    }

    private static void mayByRules() {
        HatDraw h = Due.office("m11 m12 n23 c34");
        Due.lay(h, 0, 2, 3, 0, 1);
        h.year(0);
        h.rules(0);
        Due.is("16: no rules", h.may(0), 14);
        h.rules(2);
        Due.is("16: years", h.may(0), 10);
        Due.is("16: years do not bar new ones", h.may(2), 11);
        Due.is("16: nor cashiers", h.may(3), 7);
        h.rules(4);
        Due.is("16: tables", h.may(0), 12);
        h.rules(9);
        Due.is("16: back and ring bar none", h.may(0), 14);
        h.rules(6);
        Due.is("16: both", h.may(0), 8);
    }
}
