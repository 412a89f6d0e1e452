/** Promises 45 to 51, sentence by sentence: what is told. */
public final class EdgesOfWhatIsToldTest {
    private static final int LEAST = Integer.MIN_VALUE, GREATEST = Integer.MAX_VALUE;

    public static void main(String[] args) throws Exception {
        Sentences.run(EdgesOfWhatIsToldTest.class);
    }

    // ---- promise 45

    private static void asks(String call, HatDraw h, int answer, int want, int asked) {
        Due.both(call, h, answer, want, asked);
    }

    @Sentence(promise = 45, says = "What the latest lay(), at(), mean(), mate(), judge(), can(), still(), fewest(), drop(), table(), rings(), gain()")
    static void theLatest() {
        HatDraw h = Refusals.four(1);
        Due.lay(h, 1, 17, 18, -5);
        Due.lay(h, 0, 1, 2, 3, 0);
        asks("lay()", h, h.lay(1, 0, 19), 1, 17);
        asks("at()", h, h.at(1, 1), 1, 18);
        asks("mean()", h, h.mean(1), 1, 10);
        asks("mate()", h, h.mate(2, 1), 1, 3);
        asks("judge()", h, h.judge(0), 4, 0);
        asks("can()", h, h.can(), 14, 6);
        asks("still()", h, h.still(0, 3), 0, 2);
        asks("fewest()", h, h.fewest(0), 2, 3);
        asks("drop()", h, h.drop(), 0, 1);
        asks("table()", h, h.table(0), 0, 6);
        asks("rings()", h, h.rings(0), 1, 4);
        asks("gain()", h, h.gain(0, 1), 1, -1);
    }

    @Sentence(promise = 45, says = "What the latest lay(), at(), mean(), mate(), judge(), can(), still(), fewest(), drop(), table(), rings(), gain()")
    static void othersTellNothing() {
        HatDraw h = Refusals.busy();
        h.lay(0, 1, 5);
        Due.lay(h, 0, 1, 2, 3, 0);
        h.lay(0, 0, 1);
        h.lay(1, 0, 1);
        h.lay(2, 0, 77);
        h.lay(2, 0, 1);
        Due.is("told", h.asked(), 77);
        h.row(3, 4);
        h.copy(0, 0, 3, 0, 4);
        h.tear(3);
        h.text(3, 3);
        h.put(3, 0, 109);
        h.fault(3);
        h.rules(1);
        h.move(0, 7);
        h.may(0);
        h.ways();
        h.nth(0, 3);
        h.number(3);
        h.lot(1, 3);
        h.undo(0);
        h.draw(1);
        h.drew(0);
        h.turns(0, 1);
        h.alike(0, 1);
        h.play(1);
        h.keep(1);
        h.on(1);
        h.year(0);
        h.forget(0);
        h.run();
        h.times(0, 1);
        h.fits(0, 1);
        h.known(0, 1);
        h.ringed(1);
        h.even(3);
        h.upper();
        h.lower();
        h.count(0);
        h.finding();
        h.findings(1);
        h.digest();
        h.office(0);
        Due.is("told, still", h.asked(), 77);
    }

    @Sentence(promise = 45, says = "that was not refused")
    static void refusedTellsNothing() {
        for (Refusals.Refused refused : Refusals.all()) {
            if (refused.answer() != HatDraw.NONE) {
                HatDraw h = refused.state().get();
                int told = h.asked();
                refused.by().applyAsInt(h);
                Due.is("after " + refused.call(), h.asked(), told);
            }
        }
    }

    @Sentence(promise = 45, says = "(nor NONE) told;")
    static void noneTellsNothing() {
        for (Refusals.Refused refused : Refusals.all()) {
            if (refused.answer() == HatDraw.NONE) {
                HatDraw h = refused.state().get();
                h.mate(0, 2);
                refused.by().applyAsInt(h);
                Due.is("after " + refused.call(), h.asked(), 1);
            }
        }
        HatDraw h = Refusals.four(7);
        h.mate(1, 2);
        Due.told("but mate() tells NONE", h, h.mate(1, 3), HatDraw.NONE);
    }

    @Sentence(promise = 45, says = "0 before.")
    static void askedBefore() {
        HatDraw h = new HatDraw();
        Due.is("at first", h.asked(), 0);
        h.at(0, 0);
        h.row(0, 3);
        h.ways();
        Due.is("nothing was told yet", h.asked(), 0);
    }

    // ---- promises 46, 47

    @Sentence(promise = 46, says = "The upper number of the fraction that was told last;")
    static void upperToldLast() {
        HatDraw h = Refusals.four(0);
        h.turns(1, 0);
        Due.is("by turns", h.upper(), 4);
        h.alike(1, 2);
        Due.is("alike", h.upper(), 1);
        h.ringed(1);
        Due.is("ringed", h.upper(), 2);
        h.turns(0, 0);
        Due.is("none", h.upper(), 0);
        h.turns(1, 0);
        h.turns(4, 0);
        h.alike(0, -1);
        h.ringed(7);
        h.mean(0);
        h.ways();
        Due.is("what is refused tells none", h.upper(), 4);
        h.office(0);
        Due.is("an office anew tells none", h.upper(), 4);
    }

    @Sentence(promise = 46, says = "0 before.")
    static void upperBefore() {
        HatDraw h = new HatDraw();
        Due.is("at first", h.upper(), 0);
        h.turns(0, 0);
        h.alike(0, 0);
        h.ringed(9);
        Due.is("refused alone", h.upper(), 0);
    }

    @Sentence(promise = 47, says = "Its lower number;")
    static void lowerToldLast() {
        HatDraw h = Refusals.four(0);
        h.turns(1, 0);
        Due.is("by turns", h.lower(), 9);
        h.ringed(1);
        Due.is("ringed", h.lower(), 3);
        h.alike(0, 0);
        Due.is("none", h.lower(), 1);
        h.turns(1, 2);
        h.turns(0, 4);
        h.alike(-1, 0);
        h.ringed(-1);
        Due.is("what is refused tells none", h.lower(), 18);
        HatDraw stuck = Refusals.stuck();
        long lower = stuck.lower();
        stuck.turns(0, 1);
        stuck.alike(0, 1);
        Due.is("nor what can't come out", stuck.lower(), lower);
    }

    @Sentence(promise = 47, says = "1 before.")
    static void lowerBefore() {
        HatDraw h = new HatDraw();
        Due.is("at first", h.lower(), 1);
        h.turns(0, 0);
        h.ringed(9);
        Due.is("refused alone", h.lower(), 1);
    }

    // ---- promise 48

    private static void counts(String what, HatDraw h, int... due) {
        for (int k = 0; k < 8; k++) {
            Due.is(what + ", count " + k, h.count(k), due[k]);
        }
    }

    @Sentence(promise = 48, says = "0 MATES, 1 how many have drawn, 2 YEARS,")
    static void countsOfMatesPapersYears() {
        HatDraw h = Refusals.four(0);
        counts("at first", h, 4, 0, 0, 0, 0, 0, 0, 1);
        h.draw(1);
        h.draw(2);
        Due.lay(h, 0, 1, 2, 3, 0);
        h.year(0);
        counts("then", h, 4, 2, 1, 0, 0, 0, 1, 1);
        HatDraw full = Refusals.full();
        full.play(1);
        counts("most", full, 4, 4, 12, 0, 0, 1, 5, 3);
        full.office(2);
        counts("none any more", full, 0, 0, 0, 0, 0, 0, 5, 3);
    }

    @Sentence(promise = 48, says = "3 BOSSES (PORTERS, too), 4 NEW ones (CASHIERS, too),")
    static void countsOfKinds() {
        counts("each", Due.office("m11 b22 n33 s44 c55 p66"), 6, 0, 0, 2, 2, 0, 0, 1);
        counts("bosses", Due.office("b11 b22 b33 b44 p55 p66"), 6, 0, 0, 6, 0, 0, 0, 1);
        counts("new ones", Due.office("n11 n22 c33 c44 c55 c66"), 6, 0, 0, 0, 6, 0, 0, 1);
        counts("neither", Due.office("m11 s22"), 2, 0, 0, 0, 0, 0, 0, 1);
    }

    @Sentence(promise = 48, says = "5 kept HATS, 6 ROWS, 7 TEXTS that are there.")
    static void countsOfWhatIsThere() {
        HatDraw h = new HatDraw();
        counts("nothing", h, 0, 0, 0, 0, 0, 0, 0, 0);
        for (int r = 0; r < 6; r++) {
            h.row(r, 0);
            Due.is("rows", h.count(6), r + 1);
        }
        h.row(5, 3);
        Due.is("a row anew", h.count(6), 6);
        h.tear(0);
        Due.is("one is torn", h.count(6), 5);
        for (int t = 0; t < 4; t++) {
            h.text(t, 0);
            Due.is("texts", h.count(7), t + 1);
        }
        Due.write(h, 0, "m11");
        h.office(0);
        int[] places = {2, 0, 1};
        for (int k = 0; k < 3; k++) {
            h.keep(places[k]);
            Due.is("kept", h.count(5), k + 1);
        }
        h.keep(0);
        h.on(1);
        Due.is("kept, still", h.count(5), 3);
    }

    @Sentence(promise = 48, says = "BAD.")
    static void countOfNothing() {
        HatDraw h = Refusals.busy();
        Due.badOutside("what", h, 0, 7, h::count);
    }

    // ---- promises 49, 50

    @Sentence(promise = 49, says = "The latest FINDING")
    static void theLatestFinding() {
        HatDraw h = Refusals.four(0);
        h.at(0, 0);
        Due.is("NOTHING", h.finding(), 1);
        h.row(0, 0);
        Due.is("a call that is not refused", h.finding(), 1);
        h.at(0, 0);
        Due.is("BEYOND", h.finding(), 2);
        h.at(6, 0);
        Due.is("BAD is none", h.finding(), 2);
        h.mark(0, 1);
        Due.is("UNLIKE", h.finding(), 3);
        h.draw(0);
        h.drew(0);
        Due.is("STATE, NONE are none", h.finding(), 3);
        h.mean(0);
        Due.is("NOUGHT", h.finding(), 4);
        h.judge(0);
        Due.is("SIZE", h.finding(), 5);
        h.at(1, 0);
        Due.is("NOTHING, again", h.finding(), 1);
        h.office(0);
        Due.is("it stays by an office anew", h.finding(), 1);
    }

    @Sentence(promise = 49, says = "(0 before any).")
    static void noFindingYet() {
        HatDraw h = new HatDraw();
        Due.is("at first", h.finding(), 0);
        h.row(6, -1);
        h.keep(0);
        h.year(0);
        Due.is("BAD, STATE are none", h.finding(), 0);
    }

    @Sentence(promise = 50, says = "How often a FINDING (1 .. 5) was answered.")
    static void howOften() {
        HatDraw h = Refusals.four(0);
        for (int k = 0; k < 5; k++) {
            Due.is("none yet", h.findings(k + 1), 0);
        }
        int[] due = {7, 5, 4, 3, 2};
        h.row(1, 0);
        for (int k = 0; k < 7; k++) {
            h.at(0, 0);
            if (k < 5) {
                h.at(1, 0);
            }
            if (k < 4) {
                h.mark(0, 1);
            }
            if (k < 3) {
                h.mean(1);
            }
            if (k < 2) {
                h.row(0, -1);
            }
        }
        for (int k = 0; k < 5; k++) {
            Due.is("finding " + (k + 1), h.findings(k + 1), due[k]);
        }
        h.office(0);
        Due.is("they stay by an office anew", h.findings(1), 7);
    }

    @Sentence(promise = 50, says = "BAD.")
    static void howOftenNoFinding() {
        HatDraw h = Refusals.busy();
        Due.badOutside("finding", h, 1, 5, h::findings);
    }

    // ---- promise 51

    private static long digest(long start, int... values) {
        long h = start;
        for (int v : values) {
            h = 31 * h + v;
        }
        return h;
    }

    @Sentence(promise = 51, says = "h = 17; then h = 31 h + v for each v")
    static void digestOfAll() {
        HatDraw h = Refusals.busy();
        Due.is("all", h.digest(), digest(17,
            4, 1, 1, 0, 0, 1, 5, 3, 5,
            0, 1, 1, 1, 0, 2, 2, 2, 0, 3, 3, 3, 0, 4, 4, 0,
            2,
            1, 2, 3, 0,
            1, -1, -1,
            4, 2, 0, 3, 1, 4, 1, 0, 3, 2, 3, 1, 2, 0, 4, 1, 2, 2, 0, 0, -1,
            15, 109, 49, 49, 32, 109, 50, 50, 32, 109, 51, 51, 32, 109, 52, 52, 2, 109, 49, 0, -1));
    }

    @Sentence(promise = 51, says = "h = 17; then h = 31 h + v for each v")
    static void digestTurnsAround() {
        HatDraw h = new HatDraw();
        h.row(0, 40);
        long rest = digest(17, 0, 0, 0, 0, 0, 0, 1, 0, 7, -1, -1, -1, 40);
        for (int i = 0; i < 40; i++) {
            int v = i % 2 == 0 ? GREATEST : LEAST;
            h.lay(0, i, v);
            rest = digest(rest, v);
        }
        Due.is("far beyond any long", h.digest(), digest(rest, -1, -1, -1, -1, -1, -1, -1, -1, -1));
    }

    @Sentence(promise = 51, says = "(of a call that tells by asked(): what it tells, not the 1 that it answers; asked() stays):")
    static void askedStays() {
        HatDraw h = Refusals.busy();
        h.at(0, 2);
        h.digest();
        Due.is("told by at()", h.asked(), 3);
        h.mate(0, 3);
        h.digest();
        Due.is("told by mate()", h.asked(), 1);
        HatDraw first = Due.office("m11");
        first.rules(3);
        first.digest();
        Due.is("nothing was told yet", first.asked(), 0);
        HatDraw one = Due.office("p99");
        one.rules(0);
        one.text(0, 0);
        Due.is("NONE of a year, not 1", one.digest(), digest(17,
            1, 0, 0, 1, 0, 0, 0, 1, 0, 5, 9, 9, -9, -1, -1, -1, -1, -1, -1, -1, -1, -1, 0, -1, -1, -1));
    }

    @Sentence(promise = 51, says = "count() 0 to 7; RULES;")
    static void digestOfCountsAndRules() {
        HatDraw h = new HatDraw();
        Due.is("nothing", h.digest(), digest(17, 0, 0, 0, 0, 0, 0, 0, 0, 7, -1, -1, -1, -1, -1, -1, -1, -1, -1, -1, -1, -1, -1));
        h.rules(15);
        Due.is("rules", h.digest(), digest(17, 0, 0, 0, 0, 0, 0, 0, 0, 15, -1, -1, -1, -1, -1, -1, -1, -1, -1, -1, -1, -1, -1));
    }

    private static long ofTwo(HatDraw h, int drawn, int years, int kept, int... then) {
        return digest(digest(17, 2, drawn, years, 0, 0, kept, h.count(6), 1, 0), then);
    }

    @Sentence(promise = 51, says = "of each MATE mate() 0 to 3; whom each who has drawn drew; of each YEAR whom each drew;")
    static void digestOfMatesPapersYears() {
        HatDraw h = Due.office("m12 s34");
        h.rules(0);
        h.text(0, 0);
        Due.is("mates", h.digest(), ofTwo(h, 0, 0, 0, 0, 1, 2, -9, 3, 3, 4, -9,
            -1, -1, -1, -1, -1, -1, -1, -1, -1, 0, -1, -1, -1));
        h.draw(1);
        h.draw(0);
        Due.is("papers", h.digest(), ofTwo(h, 2, 0, 0, 0, 1, 2, -9, 3, 3, 4, -9, 1, 0,
            -1, -1, -1, -1, -1, -1, -1, -1, -1, 0, -1, -1, -1));
        h.undo(1);
        Due.is("those who have drawn alone", h.digest(), ofTwo(h, 1, 0, 0, 0, 1, 2, -9, 3, 3, 4, -9, 1,
            -1, -1, -1, -1, -1, -1, -1, -1, -1, 0, -1, -1, -1));
        Due.lay(h, 0, 0, 1);
        h.year(0);
        h.even(0);
        h.year(0);
        h.tear(0);
        Due.is("years", h.digest(), ofTwo(h, 1, 2, 0, 0, 1, 2, 1, 3, 3, 4, 0, 1, 0, 1, 1, 0,
            -1, -1, -1, -1, -1, -1, -1, -1, -1, 0, -1, -1, -1));
        h.forget(1);
        Due.is("those told alone", h.digest(), ofTwo(h, 1, 1, 0, 0, 1, 2, 0, 3, 3, 4, 1, 1, 0, 1,
            -1, -1, -1, -1, -1, -1, -1, -1, -1, 0, -1, -1, -1));
    }

    @Sentence(promise = 51, says = "of each kept HAT how many have drawn (-1: missing);")
    static void digestOfKeptHats() {
        HatDraw h = Due.office("m12 s34");
        h.rules(0);
        h.text(0, 0);
        h.keep(2);
        h.draw(1);
        h.keep(0);
        Due.is("first and last", h.digest(), ofTwo(h, 1, 0, 2, 0, 1, 2, -9, 3, 3, 4, -9, 1,
            1, -1, 0, -1, -1, -1, -1, -1, -1, 0, -1, -1, -1));
        h.on(2);
        Due.is("they stay", h.digest(), ofTwo(h, 0, 0, 2, 0, 1, 2, -9, 3, 3, 4, -9,
            1, -1, 0, -1, -1, -1, -1, -1, -1, 0, -1, -1, -1));
    }

    @Sentence(promise = 51, says = "of each ROW its size (-1: missing) and places, of each TEXT likewise.")
    static void digestOfRowsAndTexts() {
        HatDraw h = new HatDraw();
        h.row(0, 0);
        Due.lay(h, 2, GREATEST, -7);
        Due.lay(h, 5, LEAST);
        h.text(1, 0);
        h.text(3, 2);
        h.put(3, 1, 255);
        Due.is("first and last", h.digest(), digest(17, 0, 0, 0, 0, 0, 0, 3, 2, 7, -1, -1, -1,
            0, -1, 2, GREATEST, -7, -1, -1, 1, LEAST, -1, 0, -1, 2, 32, -1));
        h.tear(2);
        h.row(5, 0);
        Due.is("torn, anew", h.digest(), digest(17, 0, 0, 0, 0, 0, 0, 2, 2, 7, -1, -1, -1,
            0, -1, -1, -1, -1, 0, -1, 0, -1, 2, 32, -1));
    }
}
