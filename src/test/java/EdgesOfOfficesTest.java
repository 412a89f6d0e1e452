/** Promises 11 to 16, sentence by sentence: offices, mates, rules, tables. */
public final class EdgesOfOfficesTest {
    private static final int NOTHING = 1, UNLIKE = 3;

    public static void main(String[] args) throws Exception {
        Sentences.run(EdgesOfOfficesTest.class);
    }

    // ---- promise 11

    @Sentence(promise = 11, says = "AN OFFICE by a TEXT")
    static void offices() {
        String[] letters = {"", "   ", "m00", "b99n11s22", " m12 b23 n34 s45 c56 p67 "};
        int[] mates = {0, 0, 1, 3, 6};
        for (int t = 0; t < 4; t++) {
            for (int k = 0; k < letters.length; k++) {
                HatDraw h = new HatDraw();
                Due.write(h, t, letters[k]);
                Due.is("mates of '" + letters[k] + "'", h.office(t), mates[k]);
                Due.is("mates there", h.count(0), mates[k]);
            }
        }
    }

    @Sentence(promise = 11, says = "AN OFFICE by a TEXT")
    static void theTextAloneChangesNothing() {
        HatDraw h = Due.office("m12 b34");
        h.put(0, 0, 112);
        h.text(0, 60);
        Due.is("mates", h.count(0), 2);
        Due.told("kind", h, h.mate(0, 0), 0);
        Due.told("table", h, h.mate(1, 1), 3);
        Due.is("office of blanks", h.office(0), 0);
    }

    private static HatDraw used() {
        HatDraw h = Refusals.busy();
        h.keep(2);
        h.move(0, 9);
        h.rules(10);
        return h;
    }

    @Sentence(promise = 11, says = "(anew: an empty HAT,")
    static void anEmptyHat() {
        HatDraw h = used();
        h.office(0);
        Due.is("drawn", h.count(1), 0);
        for (int x = 0; x < 4; x++) {
            Due.is("drew " + x, h.drew(x), HatDraw.NONE);
        }
        Due.is("the paper is back", h.draw(2), 1);
        h.office(0);
        h.draw(1);
        Due.is("another paper than ahead", h.drew(0), 1);
        Due.told("the table is that of the text", h, h.mate(0, 1), 1);
    }

    @Sentence(promise = 11, says = "no YEARS,")
    static void noYears() {
        HatDraw h = used();
        h.office(0);
        Due.is("years", h.count(2), 0);
        Due.told("whom 0 drew", h, h.mate(0, 3), HatDraw.NONE);
        Due.is("nobody is barred by years", h.may(0), 14);
        Due.is("nobody drew another", h.times(0, 1), 0);
    }

    @Sentence(promise = 11, says = "kept HATS;")
    static void noKeptHats() {
        HatDraw h = used();
        h.office(0);
        Due.is("kept", h.count(5), 0);
        for (int k = 0; k < 3; k++) {
            int place = k;
            Due.finds("place " + k, h, NOTHING, () -> h.on(place));
        }
    }

    @Sentence(promise = 11, says = "RULES stay)")
    static void rulesStay() {
        HatDraw h = used();
        h.office(0);
        Due.is("rules", h.rules(7), 10);
        HatDraw none = new HatDraw();
        none.rules(0);
        Due.write(none, 0, "m11 m22");
        none.office(0);
        Due.is("a pair, without back", none.ways(), 1);
    }

    @Sentence(promise = 11, says = ": how many MATES.")
    static void fewerMatesThanThereWere() {
        HatDraw h = Due.office("p19 p28 p37 p46 p55 p64");
        Due.write(h, 1, "m11 m22");
        Due.is("two", h.office(1), 2);
        Due.bad("the third is gone", h, () -> h.mate(2, 0));
        Due.is("no porter is left", h.count(3), 0);
        h.text(2, 0);
        Due.is("none", h.office(2), 0);
        Due.is("the empty drawing", h.ways(), 1);
    }

    @Sentence(promise = 11, says = "BAD;")
    static void officeOfNoText() {
        HatDraw h = Refusals.busy();
        Due.badOutside("text", h, 0, 3, h::office);
        Due.is("mates stay", h.count(0), 4);
    }

    @Sentence(promise = 11, says = "NOTHING;")
    static void officeOfAMissingText() {
        HatDraw h = Refusals.busy();
        Due.finds("missing", h, NOTHING, () -> h.office(3));
        Due.is("mates stay", h.count(0), 4);
    }

    @Sentence(promise = 11, says = "STATE: a FAULT.")
    static void officeWithAFault() {
        String[] faulty = {"x", "m", "m1", "m11 m", "m 11", "m11 x22", "m11m22m33m44m55m66 m77", "m11m22m33m44m55m66 m"};
        for (String letters : faulty) {
            HatDraw h = used();
            Due.write(h, 3, letters);
            Due.stays("'" + letters + "'", h, HatDraw.STATE, () -> h.office(3));
            Due.is("mates stay", h.count(0), 4);
            Due.is("the kept hat stays", h.on(0), 1);
        }
    }

    @Sentence(promise = 11, says = "(STATE behind NOTHING.)")
    static void stateBehindNothing() {
        HatDraw h = new HatDraw();
        for (int t = 0; t < 4; t++) {
            int text = t;
            Due.finds("text " + t + " is missing: no state", h, NOTHING, () -> h.office(text));
        }
    }

    // ---- promise 12

    @Sentence(promise = 12, says = "Of a MATE: 0 its KIND, 1 TABLE, 2 WORTH,")
    static void kindTableWorth() {
        HatDraw h = Due.office("m09 b18 n27 s36 c45 p90");
        int[][] facts = {{0, 0, 9}, {1, 1, 8}, {2, 2, 7}, {3, 3, 6}, {4, 4, 5}, {5, 9, 0}};
        for (int x = 0; x < 6; x++) {
            for (int what = 0; what < 3; what++) {
                Due.told("mate " + x + ", " + what, h, h.mate(x, what), facts[x][what]);
            }
        }
        h.move(5, 0);
        Due.told("where one has gone", h, h.mate(5, 1), 0);
    }

    @Sentence(promise = 12, says = "3 whom that one drew in the latest YEAR")
    static void whomInTheLatestYear() {
        HatDraw h = Refusals.four(0);
        Due.lay(h, 0, 1, 2, 3, 0);
        h.year(0);
        Due.told("the only one", h, h.mate(3, 3), 0);
        Due.lay(h, 0, 3, 2, 0, 1);
        h.year(0);
        int[] latest = {3, 2, 0, 1};
        for (int x = 0; x < 4; x++) {
            Due.told("the latest of two", h, h.mate(x, 3), latest[x]);
        }
        h.forget(1);
        Due.told("the latest that is left", h, h.mate(0, 3), 1);
        h.draw(2);
        Due.told("the hat is no year", h, h.mate(0, 3), 1);
    }

    @Sentence(promise = 12, says = "(NONE: without one), told by asked(): 1.")
    static void withoutAYear() {
        HatDraw h = Refusals.four(0);
        for (int x = 0; x < 4; x++) {
            Due.told("at first", h, h.mate(x, 3), HatDraw.NONE);
        }
        Due.lay(h, 0, 1, 2, 3, 0);
        h.year(0);
        h.forget(0);
        Due.told("all are forgotten", h, h.mate(0, 3), HatDraw.NONE);
    }

    @Sentence(promise = 12, says = "BAD.")
    static void mateThatIsNone() {
        HatDraw h = Refusals.busy();
        Due.badOutside("mate", h, 0, 3, x -> h.mate(x, 0));
        Due.badOutside("what", h, 0, 3, what -> h.mate(0, what));
        HatDraw none = new HatDraw();
        Due.bad("without mates", none, () -> none.mate(0, 0));
    }

    // ---- promise 13

    @Sentence(promise = 13, says = "What a MATE that IS of a KIND tells: a BOSS (PORTER, too) how many others are at the TABLE,")
    static void markOfABoss() {
        HatDraw h = Due.office("b11 m12 p13 b21 p32 m13");
        Due.is("a boss", h.mark(0, 1), 3);
        Due.is("a porter", h.mark(2, 1), 3);
        Due.is("a boss alone", h.mark(3, 1), 0);
        Due.is("a porter alone", h.mark(4, 1), 0);
        h.move(3, 1);
        h.move(4, 1);
        Due.is("all at one table", h.mark(4, 1), 5);
        HatDraw one = Due.office("b11");
        Due.is("without others", one.mark(0, 1), 0);
    }

    @Sentence(promise = 13, says = "a NEW one (CASHIER, too) in how many YEARS that one was drawn by whom that one drew,")
    static void markOfANewOne() {
        HatDraw h = Due.office("n11 c22 m33");
        Due.is("no years", h.mark(0, 2), 0);
        Due.lay(h, 0, 1, 0, 2);
        Due.lay(h, 1, 1, 2, 0);
        for (int k = 0; k < 6; k++) {
            h.year(1);
            Due.is("a ring is none", h.mark(0, 2), k);
            h.year(0);
            Due.is("a pair is one", h.mark(0, 2), k + 1);
            Due.is("of the cashier, too", h.mark(1, 2), k + 1);
        }
        Due.is("six of twelve", h.count(2), 12);
        h.forget(0);
        Due.lay(h, 0, 0, 2, 1);
        h.year(0);
        Due.is("who drew oneself was drawn by whom one drew", h.mark(0, 2), 1);
        Due.is("by another one than last time", h.mark(1, 2), 1);
    }

    @Sentence(promise = 13, says = "a SHY one by how many that one can't be drawn for WORTH,")
    static void markOfAShyOne() {
        HatDraw h = Due.office("s15 m15 m14 m16 s19 b10");
        Due.is("as much and less do not count", h.mark(0, 3), 2);
        Due.is("the greatest", h.mark(4, 3), 0);
        h = Due.office("s10 m11 m11 m11 m19 s11");
        Due.is("all others", h.mark(0, 3), 5);
        Due.is("one of them", h.mark(5, 3), 1);
        Due.is("mate 0", Due.office("m11 s20 m30").mark(1, 3), 1);
    }

    @Sentence(promise = 13, says = "a CASHIER how many are not BARRED to that one,")
    static void markOfACashier() {
        HatDraw h = Due.office("c15 m25 m35 m45 m55 m65");
        Due.is("all others", h.mark(0, 4), 5);
        h.move(1, 1);
        Due.is("but one of the table", h.mark(0, 4), 4);
        h.rules(11);
        Due.is("tables are no rule", h.mark(0, 4), 5);
        Due.lay(h, 0, 1, 2, 3, 4, 5, 0);
        h.year(0);
        Due.is("years bar no cashier", h.mark(0, 4), 5);
        Due.is("none", Due.office("c19 b12 s21 p13").mark(0, 4), 0);
        Due.is("without others", Due.office("c11").mark(0, 4), 0);
    }

    @Sentence(promise = 13, says = "a PORTER to how many that one is BARRED (others alone).")
    static void markOfAPorter() {
        HatDraw h = Due.office("p15 m25 m35 n45 c55 m65");
        Due.is("none", h.mark(0, 5), 0);
        for (int x = 1; x < 6; x++) {
            h.move(x, 1);
            Due.is("those of the table", h.mark(0, 5), x);
        }
        h.rules(0);
        Due.is("by kind alone", h.mark(0, 5), 5);
        h.move(0, 0);
        Due.is("none again, oneself does not count", h.mark(0, 5), 0);
        h.rules(2);
        Due.lay(h, 0, 1, 0, 2, 3, 4, 5);
        h.year(0);
        Due.is("by years", h.mark(0, 5), 1);
        Due.lay(h, 0, 3, 2, 1, 0, 4, 5);
        h.year(0);
        Due.is("not by those of a new one", h.mark(0, 5), 0);
        Due.is("to mate 0", Due.office("m11 p11 m22").mark(1, 5), 1);
    }

    @Sentence(promise = 13, says = "BAD: also KIND 0;")
    static void markOfNoKind() {
        HatDraw h = Due.office("m11 b22 n33 s44 c55 p66");
        for (int x = 0; x < 6; x++) {
            int mate = x;
            Due.badOutside("kind", h, 1, 5, kind -> h.mark(mate, kind));
        }
        for (int k = 1; k <= 5; k++) {
            int kind = k;
            Due.badOutside("mate", h, 0, 5, x -> h.mark(x, kind));
        }
        Due.bad("neither", h, () -> h.mark(6, 0));
    }

    @Sentence(promise = 13, says = "UNLIKE.")
    static void markOfAnotherKind() {
        HatDraw h = Due.office("m11 b22 n33 s44 c55 p66");
        int[] kinds = {0, 1, 2, 3, 2 * 10 + 4, 10 + 5};
        for (int x = 0; x < 6; x++) {
            for (int k = 1; k <= 5; k++) {
                int mate = x;
                int kind = k;
                if (kinds[x] % 10 != k && kinds[x] / 10 != k) {
                    Due.finds("mate " + x + " is no " + k, h, UNLIKE, () -> h.mark(mate, kind));
                } else {
                    Due.is("mate " + x + " is a " + k, h.mark(x, k) >= 0 ? 1 : 0, 1);
                }
            }
        }
    }

    // ---- promise 14

    @Sentence(promise = 14, says = "RULES are v (0 .. 15): what they were.")
    static void allRules() {
        HatDraw h = new HatDraw();
        int were = 7;
        for (int v = 15; v >= 0; v--) {
            Due.is("what they were", h.rules(v), were);
            were = v;
        }
        Due.is("none", h.rules(0), 0);
        Due.is("asked() is not told", h.asked(), 0);
    }

    @Sentence(promise = 14, says = "BAD.")
    static void rulesThatAreNone() {
        HatDraw h = Refusals.busy();
        Due.badOutside("rules", h, 0, 15, h::rules);
        Due.is("they stay", h.rules(1), 5);
    }

    // ---- promise 15

    @Sentence(promise = 15, says = "A MATE goes to a TABLE (0 .. 9): the one at which it was.")
    static void moves() {
        HatDraw h = Due.office("m51 m51");
        int was = 5;
        for (int table = 0; table <= 9; table++) {
            Due.is("was", h.move(1, table), was);
            Due.told("is", h, h.mate(1, 1), table);
            Due.is("ways, without those of one table", h.may(0), table == 5 ? 0 : 2);
            was = table;
        }
        Due.is("where it is", h.move(1, 9), 9);
        Due.told("the other one stays", h, h.mate(0, 1), 5);
    }

    @Sentence(promise = 15, says = "BAD.")
    static void movesThatAreNone() {
        HatDraw h = Refusals.busy();
        Due.badOutside("mate", h, 0, 3, x -> h.move(x, 0));
        Due.badOutside("table", h, 0, 9, table -> h.move(0, table));
        HatDraw none = new HatDraw();
        Due.bad("without mates", none, () -> none.move(0, 0));
    }

    // ---- promise 16

    @Sentence(promise = 16, says = "Whom a MATE may draw (not BARRED; bits).")
    static void whomOneMayDraw() {
        HatDraw h = Due.office("m11 m22 m33 m44 m55 m66");
        for (int x = 0; x < 6; x++) {
            Due.is("all others", h.may(x), 63 - (1 << x));
        }
        h.draw(3);
        Due.is("one who is drawn is not barred", h.may(1), 61);
        Due.is("nobody, alone", Due.office("m11").may(0), 0);
        Due.is("nobody, at one table", Due.office("m11 m12 m13").may(1), 0);
        HatDraw pair = Due.office("m11 m22");
        Due.is("back bars nobody", pair.may(0), 2);
    }

    @Sentence(promise = 16, says = "BAD.")
    static void mayOfNoMate() {
        HatDraw h = Refusals.busy();
        Due.badOutside("mate", h, 0, 3, h::may);
        HatDraw none = new HatDraw();
        Due.badOutside("mate, without any", none, 0, -1, none::may);
        Due.bad("mate 0, without any", none, () -> none.may(0));
    }
}
