import java.util.Arrays;

/** Promises 22 to 30, sentence by sentence: papers one by one. */
public final class EdgesOfPapersTest {
    private static final int NOTHING = 1, NOUGHT = 4;

    public static void main(String[] args) throws Exception {
        Sentences.run(EdgesOfPapersTest.class);
    }

    private static void drew(String what, HatDraw h, int... papers) {
        Due.is(what + ": have drawn", h.count(1), papers.length);
        for (int x = 0; x < h.count(0); x++) {
            Due.is(what + ": whom " + x + " drew", h.drew(x), x < papers.length ? papers[x] : HatDraw.NONE);
        }
    }

    private static void drawAll(HatDraw h, int... papers) {
        for (int x : papers) {
            h.draw(x);
        }
    }

    private static void state(String what, HatDraw h, int x) {
        Due.stays(what, h, HatDraw.STATE, () -> h.draw(x));
    }

    // ---- promise 22

    @Sentence(promise = 22, says = "Who is to draw next draws a MATE: how many have drawn.")
    static void draws() {
        HatDraw h = Due.office("m11 m22 m33 m44 m55 m66");
        int[] papers = {5, 4, 3, 1, 0, 2};
        for (int k = 0; k < 6; k++) {
            Due.is("have drawn", h.draw(papers[k]), k + 1);
        }
        drew("all six", h, papers);
    }

    @Sentence(promise = 22, says = "BAD;")
    static void drawNoMate() {
        HatDraw h = Refusals.busy();
        Due.badOutside("mate", h, 0, 3, h::draw);
        HatDraw none = new HatDraw();
        Due.bad("without mates", none, () -> none.draw(0));
    }

    @Sentence(promise = 22, says = "STATE: all have drawn,")
    static void allHaveDrawn() {
        HatDraw h = Refusals.four(0);
        drawAll(h, 1, 2, 3, 0);
        for (int x = 0; x < 4; x++) {
            state("all have drawn", h, x);
        }
        h.undo(3);
        Due.is("one has not", h.draw(0), 4);
    }

    @Sentence(promise = 22, says = "that one is drawn,")
    static void isDrawn() {
        HatDraw h = Refusals.four(0);
        h.draw(3);
        state("by 0", h, 3);
        h.draw(0);
        state("by 0, ahead", h, 3);
        state("by 1", h, 0);
        h.undo(1);
        Due.is("that one is not any more", h.draw(0), 2);
    }

    @Sentence(promise = 22, says = "BARRED,")
    static void isBarred() {
        HatDraw h = Due.office("m15 b15 m15 s24 m35");
        state("oneself", h, 0);
        state("by kinds: a boss", h, 1);
        state("by kinds: a shy one", h, 3);
        state("by tables", h, 2);
        Due.lay(h, 0, 4, 3, 1, 2, 0);
        h.year(0);
        state("by years", h, 4);
        h.rules(0);
        state("a boss, without rules", h, 1);
        state("a shy one, without rules", h, 3);
        state("oneself, without rules", h, 0);
        Due.is("not by tables", h.draw(2), 1);
        h.undo(0);
        Due.is("not by years", h.draw(4), 1);
        state("oneself, the next", h, 1);
    }

    @Sentence(promise = 22, says = "or by BACK.")
    static void byBack() {
        HatDraw h = Refusals.four(1);
        h.draw(1);
        state("who drew one", h, 0);
        h.draw(3);
        Due.is("who drew another one", h.draw(0), 3);
        state("who drew one, for the last", h, 1);
        h = Refusals.four(0);
        h.draw(1);
        Due.is("back is no rule", h.draw(0), 2);
        String[] offices = {"c11 m22 m33", "m11 c22 m33", "c11 c22 m33"};
        for (String letters : offices) {
            HatDraw cashier = Due.office(letters);
            cashier.draw(1);
            Due.is(letters, cashier.draw(0), 2);
        }
        HatDraw third = Due.office("m11 m22 c33");
        third.draw(1);
        state("a cashier beside does not help", third, 0);
    }

    @Sentence(promise = 22, says = "(That it CAN COME OUT is not asked.)")
    static void comingOutIsNotAsked() {
        HatDraw h = Due.office("m11 m22 m33");
        h.rules(0);
        h.draw(1);
        Due.is("the last is left with oneself", h.draw(0), 2);
        HatDraw ring = Refusals.four(8);
        ring.draw(1);
        Due.is("no ring", ring.draw(0), 2);
        HatDraw tables = Due.office("m11 m22 m23");
        tables.rules(4);
        Due.is("there is no right drawing at all", tables.ways(), 0);
        Due.is("the first draws all the same", tables.draw(1), 1);
    }

    // ---- promise 23

    @Sentence(promise = 23, says = "Papers from number n (0 .. as many as have drawn) on go back: how many.")
    static void undone() {
        for (int n = 0; n <= 4; n++) {
            HatDraw h = Refusals.four(0);
            int[] papers = {1, 2, 3, 0};
            drawAll(h, papers);
            Due.is("from " + n + " on", h.undo(n), 4 - n);
            drew("from " + n + " on", h, Arrays.copyOf(papers, n));
            Due.is("none is left to go", h.undo(n), 0);
        }
        HatDraw h = Refusals.four(0);
        drawAll(h, 3, 2, 1, 0);
        h.undo(1);
        Due.is("other papers", h.draw(0), 2);
        drew("other papers", h, 3, 0);
        Due.is("without mates", new HatDraw().undo(0), 0);
    }

    @Sentence(promise = 23, says = "BAD.")
    static void undoneBeyond() {
        HatDraw h = Refusals.four(0);
        Due.badOutside("none has drawn", h, 0, 0, h::undo);
        drawAll(h, 1, 2);
        Due.badOutside("two have drawn", h, 0, 2, h::undo);
        drawAll(h, 3, 0);
        Due.badOutside("all have drawn", h, 0, 4, h::undo);
    }

    // ---- promise 24

    @Sentence(promise = 24, says = "Whom a MATE drew;")
    static void whomOneDrew() {
        HatDraw h = Refusals.four(0);
        drawAll(h, 3, 2, 1, 0);
        drew("all", h, 3, 2, 1, 0);
    }

    @Sentence(promise = 24, says = "NONE: not yet.")
    static void notYet() {
        HatDraw h = Refusals.four(0);
        for (int x = 0; x < 4; x++) {
            int mate = x;
            Due.stays("nobody has drawn", h, HatDraw.NONE, () -> h.drew(mate));
        }
        h.draw(1);
        Due.is("0 has", h.drew(0), 1);
        Due.stays("1 has not", h, HatDraw.NONE, () -> h.drew(1));
        h.undo(0);
        Due.stays("it went back", h, HatDraw.NONE, () -> h.drew(0));
    }

    @Sentence(promise = 24, says = "BAD.")
    static void drewOfNoMate() {
        HatDraw h = Refusals.busy();
        Due.badOutside("mate", h, 0, 3, h::drew);
        HatDraw none = new HatDraw();
        Due.bad("without mates", none, () -> none.drew(0));
    }

    // ---- promise 25

    @Sentence(promise = 25, says = "Whom the next may draw so that it CAN COME OUT")
    static void whomTheNextMayDraw() {
        HatDraw h = Due.office("m11 m22 m33");
        h.rules(0);
        Due.both("the first", h, h.can(), 6, 2);
        h.draw(1);
        Due.both("not 0: the last would be left with oneself", h, h.can(), 4, 1);
        h.draw(0);
        Due.both("it can't come out", h, h.can(), 0, 0);
        HatDraw alone = Refusals.alone();
        Due.both("alone", alone, alone.can(), 0, 0);
    }

    @Sentence(promise = 25, says = "(bits; all have drawn: 0);")
    static void allDrawn() {
        HatDraw h = Refusals.four(0);
        drawAll(h, 1, 0, 3, 2);
        Due.both("it is right", h, h.can(), 0, 1);
        h.rules(1);
        Due.both("it is not right", h, h.can(), 0, 0);
        HatDraw none = new HatDraw();
        Due.both("without mates all have drawn", none, none.can(), 0, 1);
    }

    @Sentence(promise = 25, says = "how many RIGHT DRAWINGS begin so by asked().")
    static void howManyBeginSo() {
        HatDraw h = Due.office("m11 m22 m33 m44 m55 m66");
        h.rules(0);
        int[] papers = {1, 2, 3, 4, 5, 0};
        int[] begin = {265, 53, 11, 3, 1, 1, 1};
        int[] next = {62, 61, 57, 49, 32, 1, 0};
        for (int k = 0; k <= 6; k++) {
            Due.both(k + " have drawn", h, h.can(), next[k], begin[k]);
            if (k < 6) {
                h.draw(papers[k]);
            }
        }
    }

    // ---- promises 26, 27

    private static void odds(HatDraw h, int x, int y, long upper, long lower) {
        Due.is("answers", h.turns(x, y), 1);
        Due.fraction(x + " draws " + y, h, upper, lower);
    }

    private static void likely(HatDraw h, int x, int y, long upper, long lower) {
        Due.is("answers", h.alike(x, y), 1);
        Due.fraction(x + " draws " + y, h, upper, lower);
    }

    @Sentence(promise = 26, says = "Odds that a MATE draws another one")
    static void oddsByTurns() {
        HatDraw h = Refusals.four(0);
        odds(h, 0, 3, 1, 3);
        odds(h, 1, 0, 4, 9);
        odds(h, 1, 2, 5, 18);
        odds(h, 3, 0, 5, 18);
        odds(h, 3, 2, 7, 18);
        HatDraw two = Due.office("m11 m22");
        two.rules(0);
        odds(two, 0, 1, 1, 1);
        odds(two, 1, 0, 1, 1);
    }

    @Sentence(promise = 26, says = "(perhaps oneself)")
    static void oddsOfOneself() {
        HatDraw h = Refusals.four(0);
        for (int x = 0; x < 4; x++) {
            odds(h, x, x, 0, 1);
        }
        drawAll(h, 1, 2, 3, 0);
        for (int x = 0; x < 4; x++) {
            odds(h, x, x, 0, 1);
        }
    }

    @Sentence(promise = 26, says = "BY TURNS from the HAT as it is, told by upper(), lower(): 1.")
    static void oddsFromAHat() {
        HatDraw h = Refusals.four(0);
        h.draw(2);
        odds(h, 0, 2, 1, 1);
        odds(h, 0, 1, 0, 1);
        // 0 or 3 by 1; if it is 0, the others have one way alone
        odds(h, 1, 0, 1, 2);
        odds(h, 2, 3, 1, 2);
        odds(h, 2, 1, 1, 4);
        odds(h, 3, 0, 1, 4);
        drawAll(h, 0, 3, 1);
        odds(h, 3, 1, 1, 1);
        odds(h, 3, 0, 0, 1);
    }

    @Sentence(promise = 26, says = "BAD;")
    static void oddsOfNoMate() {
        HatDraw h = Refusals.busy();
        Due.badOutside("who", h, 0, 3, x -> h.turns(x, 0));
        Due.badOutside("whom", h, 0, 3, y -> h.turns(0, y));
        HatDraw none = new HatDraw();
        Due.bad("without mates", none, () -> none.turns(0, 0));
    }

    @Sentence(promise = 26, says = "NOUGHT: it CAN'T COME OUT.")
    static void noOdds() {
        HatDraw h = Refusals.stuck();
        for (int x = 0; x < 4; x++) {
            int mate = x;
            Due.finds("who has drawn, who has not", h, NOUGHT, () -> h.turns(mate, 1));
        }
        HatDraw alone = Refusals.alone();
        Due.finds("there is no right drawing", alone, NOUGHT, () -> alone.turns(0, 0));
        h.rules(0);
        drawAll(h, 3, 2);
        odds(h, 0, 1, 1, 1);
        h.rules(1);
        Due.finds("all have drawn, it is not right", h, NOUGHT, () -> h.turns(0, 1));
    }

    @Sentence(promise = 27, says = "Likewise ALIKE.")
    static void oddsAlike() {
        HatDraw h = Refusals.four(0);
        for (int x = 0; x < 4; x++) {
            for (int y = 0; y < 4; y++) {
                likely(h, x, y, x == y ? 0 : 1, x == y ? 1 : 3);
            }
        }
        h.draw(2);
        likely(h, 0, 2, 1, 1);
        likely(h, 0, 1, 0, 1);
        // 2031 2301 2310
        likely(h, 1, 0, 1, 3);
        likely(h, 2, 0, 1, 3);
        likely(h, 3, 1, 2, 3);
        drawAll(h, 3, 1, 0);
        likely(h, 3, 0, 1, 1);
        likely(h, 3, 1, 0, 1);
    }

    @Sentence(promise = 27, says = "BAD;")
    static void alikeOfNoMate() {
        HatDraw h = Refusals.busy();
        Due.badOutside("who", h, 0, 3, x -> h.alike(x, 0));
        Due.badOutside("whom", h, 0, 3, y -> h.alike(0, y));
        HatDraw none = new HatDraw();
        Due.bad("without mates", none, () -> none.alike(0, 0));
    }

    @Sentence(promise = 27, says = "NOUGHT.")
    static void noneAlike() {
        HatDraw h = Refusals.stuck();
        for (int x = 0; x < 4; x++) {
            int mate = x;
            Due.finds("who has drawn, who has not", h, NOUGHT, () -> h.alike(mate, 1));
        }
        HatDraw alone = Refusals.alone();
        Due.finds("there is no right drawing", alone, NOUGHT, () -> alone.alike(0, 0));
        h.rules(0);
        drawAll(h, 3, 2);
        likely(h, 0, 1, 1, 1);
        h.rules(1);
        Due.finds("all have drawn, it is not right", h, NOUGHT, () -> h.alike(0, 1));
    }

    // ---- promise 28

    @Sentence(promise = 28, says = "A HAT drawn to its end by LOTS of a seed, BY TURNS: a number each;")
    static void played() {
        int[] seeds = {1, 2, 3, 44489, 99999, 2147483646};
        String[] offices = {"m11 m22 m33 m44 m55 m66", "m11 b12 n23 s24 c35 p36", "c11 m12 n23 n24 m35"};
        for (String letters : offices) {
            for (int seed : seeds) {
                HatDraw h = Due.office(letters);
                int[] due = Lots.played(h, seed);
                Due.is(letters, h.play(seed), due.length);
                drew(letters + " by " + seed, h, due);
            }
        }
    }

    @Sentence(promise = 28, says = "A HAT drawn to its end by LOTS of a seed, BY TURNS: a number each;")
    static void playedOn() {
        for (int had = 1; had <= 4; had++) {
            HatDraw h = Refusals.four(1);
            drawAll(h, Arrays.copyOf(new int[] {2, 3, 1, 0}, had));
            // the first lot is the next one's, not that of mate 0
            int[] due = Lots.played(h, 7);
            Due.is("on from " + had, h.play(7), 4);
            drew("on from " + had, h, due);
        }
    }

    @Sentence(promise = 28, says = "of those whom one can draw the one at it modulo how many there are (the least first):")
    static void theLeastFirst() {
        HatDraw h = Refusals.four(0);
        // 48271: 1 modulo 3 of 1, 2, 3; 182605794: 0 modulo 2 of 0, 3
        h.play(1);
        drew("seed 1", h, 2, 0, 3, 1);
        h.undo(0);
        // 96542: 2 modulo 3 of 1, 2, 3; 365211588: 0 modulo 2 of 0, 2
        h.play(2);
        drew("seed 2", h, 3, 0, 1, 2);
    }

    @Sentence(promise = 28, says = "how many have drawn")
    static void howManyHaveDrawn() {
        HatDraw h = Refusals.four(0);
        Due.is("none had", h.play(1), 4);
        Due.stays("all had", h, 4, () -> h.play(1));
        HatDraw none = new HatDraw();
        Due.stays("there are none", none, 0, () -> none.play(1));
    }

    @Sentence(promise = 28, says = "(fewer, if it CAN'T COME OUT: as many as had).")
    static void notPlayed() {
        HatDraw h = Refusals.stuck();
        Due.stays("two had", h, 2, () -> h.play(1));
        HatDraw alone = Refusals.alone();
        Due.stays("none had, there is no right drawing", alone, 0, () -> alone.play(1));
        HatDraw last = Due.office("m11 m22 m33");
        last.rules(0);
        drawAll(last, 1, 0);
        Due.stays("the last is left with oneself", last, 2, () -> last.play(1));
        HatDraw barred = Due.office("m11 m22 m23");
        barred.rules(4);
        barred.draw(1);
        Due.stays("one had, it never could", barred, 1, () -> barred.play(1));
    }

    @Sentence(promise = 28, says = "BAD.")
    static void playNoSeed() {
        HatDraw h = Refusals.busy();
        Due.badOutside("seed", h, 1, 2147483646, h::play);
        Due.is("the greatest", h.play(2147483646), 4);
        HatDraw drawn = Refusals.allDrawn();
        Due.bad("all have drawn", drawn, () -> drawn.play(0));
        HatDraw none = new HatDraw();
        Due.bad("without mates", none, () -> none.play(0));
    }

    // ---- promise 29

    @Sentence(promise = 29, says = "The HAT and RULES are kept in a place (0 .. 2): how many have drawn.")
    static void kept() {
        HatDraw h = Refusals.four(0);
        int[] papers = {1, 2, 3};
        for (int k = 0; k <= 2; k++) {
            Due.is("place " + k, h.keep(k), k);
            Due.is("kept", h.count(5), k + 1);
            h.draw(papers[k]);
        }
        h.draw(0);
        Due.is("anew, all have drawn", h.keep(1), 4);
        Due.is("kept, still", h.count(5), 3);
        drew("the hat stays", h, 1, 2, 3, 0);
        h.on(0);
        drew("place 0", h);
        h.on(2);
        drew("place 2", h, 1, 2);
        h.on(1);
        drew("place 1, anew", h, 1, 2, 3, 0);
    }

    @Sentence(promise = 29, says = "BAD;")
    static void keepInNoPlace() {
        HatDraw h = Refusals.busy();
        Due.badOutside("place", h, 0, 2, h::keep);
        HatDraw none = new HatDraw();
        Due.badOutside("place, without mates", none, 0, 2, none::keep);
    }

    @Sentence(promise = 29, says = "STATE: no MATES.")
    static void keepWithoutMates() {
        HatDraw none = new HatDraw();
        for (int k = 0; k <= 2; k++) {
            int place = k;
            Due.stays("place " + k, none, HatDraw.STATE, () -> none.keep(place));
        }
        HatDraw h = Refusals.busy();
        h.office(2);
        Due.stays("no mates any more", h, HatDraw.STATE, () -> h.keep(0));
        Due.is("with one mate", Refusals.alone().keep(0), 0);
    }

    // ---- promise 30

    @Sentence(promise = 30, says = "The HAT and RULES are as they were kept: how many have drawn.")
    static void on() {
        HatDraw h = Refusals.four(1);
        h.draw(2);
        h.keep(0);
        h.rules(0);
        h.undo(0);
        drawAll(h, 3, 2, 1, 0);
        h.keep(1);
        h.rules(6);
        Due.is("one had", h.on(0), 1);
        drew("one had", h, 2);
        Due.is("its rules", h.rules(1), 1);
        Due.is("four had", h.on(1), 4);
        drew("four had", h, 3, 2, 1, 0);
        Due.is("ways by its rules", h.ways(), 9);
        Due.is("its rules", h.rules(6), 0);
        Due.is("one had, again", h.on(0), 1);
        Due.is("ways by its rules", h.ways(), 6);
    }

    @Sentence(promise = 30, says = "The HAT and RULES are as they were kept: how many have drawn.")
    static void allElseStays() {
        HatDraw h = Refusals.four(3);
        h.keep(2);
        Due.lay(h, 0, 1, 2, 3, 0);
        h.year(0);
        h.move(0, 7);
        h.on(2);
        Due.is("years", h.count(2), 1);
        Due.told("tables", h, h.mate(0, 1), 7);
        Due.is("kept hats", h.count(5), 1);
        Due.is("by years told since", h.ways(), 1);
        Due.is("a hat on which one goes is kept as it was", h.draw(2), 1);
        Due.is("it is empty", h.on(2), 0);
    }

    @Sentence(promise = 30, says = "BAD;")
    static void onFromNoPlace() {
        HatDraw h = Refusals.busy();
        Due.badOutside("place", h, 0, 2, h::on);
    }

    @Sentence(promise = 30, says = "NOTHING.")
    static void onFromAnEmptyPlace() {
        HatDraw h = Refusals.busy();
        Due.finds("place 1", h, NOTHING, () -> h.on(1));
        Due.finds("place 2", h, NOTHING, () -> h.on(2));
        HatDraw none = new HatDraw();
        for (int k = 0; k <= 2; k++) {
            int place = k;
            Due.finds("without mates", none, NOTHING, () -> none.on(place));
        }
        h.office(0);
        Due.finds("forgotten by the office", h, NOTHING, () -> h.on(0));
    }
}
