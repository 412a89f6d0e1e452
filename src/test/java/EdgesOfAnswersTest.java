import java.util.function.ToIntFunction;

/** What binds all promises, sentence by sentence: what an object is, its constants, how its calls are refused. */
public final class EdgesOfAnswersTest {
    private static final int NOTHING = 1, BEYOND = 2, UNLIKE = 3, NOUGHT = 4, SIZE = 5;

    public static void main(String[] args) throws Exception {
        Sentences.run(EdgesOfAnswersTest.class);
    }

    // ---- what it is, the public face

    @Sentence(promise = 0, says = "An object is used for at most 512 calls after it has been made; what later calls answer is free.")
    static void callsOfAnObject() {
        HatDraw h = new HatDraw();
        for (int k = 1; k < 512; k++) {
            h.row(k % 6, k % 41);
        }
        Due.is("the 512th", h.count(6), 6);
        HatDraw dear = Refusals.four(0);
        for (int k = 100; k < 512; k++) {
            dear.run();
        }
        Due.is("the 512th of dear ones", dear.run(), 9);
    }

    @Sentence(promise = 0, says = "public static final int BAD = -1, FULL = -2, FINDING = -3, STATE = -4, SPENT = -6, NONE = -9;")
    static void constants() throws ReflectiveOperationException {
        String[] names = {"BAD", "FULL", "FINDING", "STATE", "SPENT", "NONE"};
        int[] values = {-1, -2, -3, -4, -6, -9};
        for (int k = 0; k < names.length; k++) {
            Due.is(names[k], HatDraw.class.getField(names[k]).getInt(null), values[k]);
        }
    }

    // ---- answers

    private static void refused(int answer, String call, HatDraw h, ToIntFunction<HatDraw> by) {
        Due.stays(call, h, answer, () -> by.applyAsInt(h));
    }

    @Sentence(promise = 0, says = "ANSWERS. Refused is, the first of these that fits, in this order")
    static void badAheadOfFull() {
        refused(HatDraw.BAD, "year(6)", Refusals.full(), h -> h.year(6));
        refused(HatDraw.BAD, "year(-1)", Refusals.full(), h -> h.year(-1));
    }

    @Sentence(promise = 0, says = "ANSWERS. Refused is, the first of these that fits, in this order")
    static void badAheadOfState() {
        refused(HatDraw.BAD, "keep(3), no mates", Refusals.nobody(), h -> h.keep(3));
        refused(HatDraw.BAD, "year(6), no mates", Refusals.nobody(), h -> h.year(6));
        refused(HatDraw.BAD, "draw(4), all have drawn", Refusals.allDrawn(), h -> h.draw(4));
        refused(HatDraw.BAD, "draw(-1), all have drawn", Refusals.allDrawn(), h -> h.draw(-1));
        refused(HatDraw.BAD, "draw(0), no mates", Refusals.nobody(), h -> h.draw(0));
    }

    @Sentence(promise = 0, says = "ANSWERS. Refused is, the first of these that fits, in this order")
    static void badAheadOfFinding() {
        refused(HatDraw.BAD, "row(6, -1)", Refusals.busy(), h -> h.row(6, -1));
        refused(HatDraw.BAD, "copy(6, 0, 5, 9, -1)", Refusals.busy(), h -> h.copy(6, 0, 5, 9, -1));
        refused(HatDraw.BAD, "copy(5, 0, 6, 9, -1)", Refusals.busy(), h -> h.copy(5, 0, 6, 9, -1));
        refused(HatDraw.BAD, "text(4, -1)", Refusals.busy(), h -> h.text(4, -1));
        refused(HatDraw.BAD, "nth(-1, 0), none right", Refusals.alone(), h -> h.nth(-1, 0));
        refused(HatDraw.BAD, "nth(0, 6), none right", Refusals.alone(), h -> h.nth(0, 6));
        refused(HatDraw.BAD, "lot(0, 0), none right", Refusals.alone(), h -> h.lot(0, 0));
        refused(HatDraw.BAD, "lot(1, 6), none right", Refusals.alone(), h -> h.lot(1, 6));
        refused(HatDraw.BAD, "ringed(7), none right", Refusals.alone(), h -> h.ringed(7));
        refused(HatDraw.BAD, "turns(4, 0), stuck", Refusals.stuck(), h -> h.turns(4, 0));
        refused(HatDraw.BAD, "turns(0, 4), stuck", Refusals.stuck(), h -> h.turns(0, 4));
        refused(HatDraw.BAD, "alike(4, 0), stuck", Refusals.stuck(), h -> h.alike(4, 0));
        refused(HatDraw.BAD, "alike(0, 4), stuck", Refusals.stuck(), h -> h.alike(0, 4));
        refused(HatDraw.BAD, "fits(5, 16)", Refusals.busy(), h -> h.fits(5, 16));
        refused(HatDraw.BAD, "known(5, 16)", Refusals.busy(), h -> h.known(5, 16));
        refused(HatDraw.BAD, "still(5, 16)", Refusals.busy(), h -> h.still(5, 16));
        refused(HatDraw.BAD, "gain(5, 4)", Refusals.busy(), h -> h.gain(5, 4));
    }

    @Sentence(promise = 0, says = "ANSWERS. Refused is, the first of these that fits, in this order")
    static void fullAheadOfFinding() {
        refused(HatDraw.FULL, "year(5)", Refusals.full(), h -> h.year(5));
        refused(HatDraw.FULL, "year(2)", Refusals.full(), h -> h.year(2));
        refused(HatDraw.FULL, "year(3)", Refusals.full(), h -> h.year(3));
    }

    @Sentence(promise = 0, says = "ANSWERS. Refused is, the first of these that fits, in this order")
    static void stateAheadOfFinding() {
        refused(HatDraw.STATE, "year(0) of no row", Refusals.nobody(), h -> h.year(0));
        HatDraw rowed = Refusals.nobody();
        rowed.row(0, 3);
        refused(HatDraw.STATE, "year(0) of three places", rowed, h -> h.year(0));
    }

    @Sentence(promise = 0, says = "unless a call says so otherwise")
    static void stateBehindFinding() {
        HatDraw h = Refusals.busy();
        Due.finds("office() of no text", h, NOTHING, () -> h.office(3));
        Due.finds("copy() of no rows, fewer than none", h, SIZE, () -> h.copy(5, 0, 5, 0, -1));
    }

    private static void allOf(int answer, int least) {
        int many = 0;
        for (Refusals.Refused refused : Refusals.all()) {
            if (refused.answer() == answer) {
                HatDraw h = refused.state().get();
                Due.is(refused.call(), refused.by().applyAsInt(h), answer);
                many++;
            }
        }
        Due.is("there are such calls", many >= least ? 1 : 0, 1);
    }

    @Sentence(promise = 0, says = "BAD -1 (a number that is none, or not as told)")
    static void answersBad() {
        allOf(-1, 50);
    }

    @Sentence(promise = 0, says = "FULL -2")
    static void answersFull() {
        allOf(-2, 1);
    }

    @Sentence(promise = 0, says = "STATE -4 (not now)")
    static void answersState() {
        allOf(-4, 5);
    }

    @Sentence(promise = 0, says = "SPENT -6 (more than told)")
    static void nothingIsSpent() throws ReflectiveOperationException {
        Due.is("SPENT", HatDraw.class.getField("SPENT").getInt(null), -6);
        for (Refusals.Refused refused : Refusals.all()) {
            Due.is(refused.call() + " is spent", refused.by().applyAsInt(refused.state().get()) == -6 ? 1 : 0, 0);
        }
    }

    @Sentence(promise = 0, says = "FINDING -3 (finding() tells which)")
    static void findingTellsWhich() {
        allOf(-3, 40);
        for (Refusals.Refused refused : Refusals.all()) {
            if (refused.finding() != 0) {
                HatDraw h = refused.state().get();
                refused.by().applyAsInt(h);
                Due.is(refused.call() + " found", h.finding(), refused.finding());
            }
        }
    }

    @Sentence(promise = 0, says = "NONE -9 (as an answer: a ROW that would come anew stays)")
    static void noneLeavesTheRow() {
        HatDraw h = Refusals.alone();
        Due.stays("even(0)", h, -9, () -> h.even(0));
        Due.holds("row 0", h, 0, 2, 0, 3, 1);
        Due.stays("even(5)", h, -9, () -> h.even(5));
        Due.finds("row 5 is missing still", h, NOTHING, () -> h.at(5, 0));
    }

    @Sentence(promise = 0, says = "NONE -9 (as an answer: a ROW that would come anew stays)")
    static void noneIsAnAnswer() {
        allOf(-9, 5);
        HatDraw h = Refusals.busy();
        Due.told("mate() without a year", Refusals.alone(), 1, 4);
        int found = h.finding();
        h.number(1);
        h.drew(3);
        h.still(0, 0);
        Due.is("no finding", h.finding(), found);
    }

    @Sentence(promise = 0, says = "What is refused changes nothing but finding(), findings().")
    static void refusedChangesNothing() {
        for (Refusals.Refused refused : Refusals.all()) {
            HatDraw h = refused.state().get();
            HatDraw twin = refused.state().get();
            if (refused.finding() == 0) {
                Due.stays(refused.call(), h, refused.answer(), () -> refused.by().applyAsInt(h));
            } else {
                Due.finds(refused.call(), h, refused.finding(), () -> refused.by().applyAsInt(h));
            }
            goesOnAlike(refused.call(), h, twin);
        }
    }

    /** What can't be seen at once shows in what comes of it. */
    private static void goesOnAlike(String after, HatDraw h, HatDraw twin) {
        Due.is(after + ", then ways()", h.ways(), twin.ways());
        Due.is(after + ", then can()", h.can(), twin.can());
        Due.is(after + ", then run()", h.run(), twin.run());
        Due.is(after + ", then drop()", h.drop(), twin.drop());
        Due.is(after + ", then nth(0, 5)", h.nth(0, 5), twin.nth(0, 5));
        Due.is(after + ", then play(9)", h.play(9), twin.play(9));
        Due.is(after + ", then digest()", h.digest(), twin.digest());
        for (int k = 0; k < 3; k++) {
            Due.is(after + ", then on()", h.on(k), twin.on(k));
            Due.is(after + ", on, then can()", h.can(), twin.can());
            Due.is(after + ", on, then digest()", h.digest(), twin.digest());
        }
    }

    @Sentence(promise = 0, says = "FINDINGS: 1 NOTHING (a ROW, a TEXT, a kept DRAWING that is missing)")
    static void findsNothing() {
        HatDraw h = Refusals.busy();
        Due.finds("a row", h, 1, () -> h.at(5, 0));
        Due.finds("a text", h, 1, () -> h.fault(3));
        Due.finds("a kept drawing", h, 1, () -> h.on(2));
    }

    @Sentence(promise = 0, says = "2 BEYOND (a place that there is not)")
    static void findsBeyond() {
        HatDraw h = Refusals.busy();
        Due.finds("of a row", h, 2, () -> h.at(0, 4));
        Due.finds("of an empty row", h, 2, () -> h.at(4, 0));
        Due.finds("of a text", h, 2, () -> h.put(1, 2, 0));
        Due.finds("of an empty text", h, 2, () -> h.put(2, 0, 0));
        Due.finds("of a row to which it goes", h, 2, () -> h.copy(0, 0, 4, 0, 1));
    }

    @Sentence(promise = 0, says = "3 UNLIKE (a MATE of another KIND; a number that is none)")
    static void findsUnlike() {
        HatDraw h = Refusals.busy();
        Due.finds("a mate of another kind", h, 3, () -> h.mark(0, 5));
        h.lay(0, 1, 4);
        Due.finds("a number that is none", h, 3, () -> h.judge(0));
    }

    @Sentence(promise = 0, says = "4 NOUGHT (shared among none; what can't be)")
    static void findsNought() {
        HatDraw h = Refusals.busy();
        Due.finds("shared among none", h, 4, () -> h.mean(4));
        Due.finds("what can't be", h, 4, () -> h.nth(6, 0));
    }

    @Sentence(promise = 0, says = "5 SIZE (fewer than none; not as many as due)")
    static void findsSize() {
        HatDraw h = Refusals.busy();
        Due.finds("fewer than none", h, 5, () -> h.text(0, -1));
        Due.finds("not as many as due", h, 5, () -> h.judge(2));
    }

    @Sentence(promise = 0, says = "Fractions are told by upper(), lower(), in lowest terms")
    static void lowestTerms() {
        HatDraw h = Due.office("m11 m22 m33 m44 m55 m66");
        h.rules(0);
        h.ringed(2);
        Due.fraction("130 of 265", h, 26, 53);
        h.alike(0, 1);
        Due.fraction("53 of 265", h, 1, 5);
        h.turns(0, 1);
        Due.fraction("one of five", h, 1, 5);
        h.draw(1);
        h.turns(0, 1);
        Due.fraction("all", h, 1, 1);
    }

    @Sentence(promise = 0, says = "the lower number above 0 (0 by 1)")
    static void noneByOne() {
        HatDraw h = Refusals.four(0);
        h.turns(0, 0);
        Due.fraction("turns() of none", h, 0, 1);
        h.alike(0, 1);
        h.alike(0, 0);
        Due.fraction("alike() of none", h, 0, 1);
        h.ringed(1);
        h.ringed(4);
        Due.fraction("ringed() of none", h, 0, 1);
        h.draw(1);
        h.turns(0, 2);
        Due.fraction("turns() of a paper that is drawn", h, 0, 1);
    }

    @Sentence(promise = 0, says = "Sets (of MATES) are told by bits.")
    static void setsAreBits() {
        HatDraw h = Due.office("m11 m22 m33 m44 m55 m66");
        h.rules(0);
        Due.is("all but 0", h.may(0), 1 + 2 + 4 + 8 + 16 + 32 - 1);
        Due.is("all but 5", h.may(5), 31);
        Due.lay(h, 0, 1, 2, 3, 4, 5, 0);
        Due.is("0 alone is left", h.known(0, 62), 1);
        Due.is("5 alone is left", h.known(0, 31), 32);
        Due.is("each of the set tells", h.fits(0, 63), 1);
    }
}
