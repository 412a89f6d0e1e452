import java.util.ArrayList;
import java.util.List;
import java.util.function.Supplier;
import java.util.function.ToIntFunction;

/** Objects in states that the tests share, and every way in which every call is refused in one of them. */
final class Refusals {
    static final int NOTHING = 1, BEYOND = 2, UNLIKE = 3, NOUGHT = 4, SIZE = 5;

    private final List<Refused> all = new ArrayList<>();

    /** A call that is refused (or answers NONE), the state in which it is, and the finding (0: none). */
    record Refused(String call, Supplier<HatDraw> state, int answer, int finding, ToIntFunction<HatDraw> by) {
    }

    private Refusals() {
    }

    /** Four plain mates at tables of their own. */
    static HatDraw four(int rules) {
        HatDraw h = Due.office("m11 m22 m33 m44");
        h.rules(rules);
        return h;
    }

    /**
     * Four mates, a YEAR, papers drawn, a kept HAT, and all that is told is not as at first. ROW 0 is RIGHT, 1 is not,
     * 2 has a place too few, 3 has one MATE twice, 4 is empty, 5 is missing. TEXT 1 has a FAULT, 2 is empty, 3 missing.
     */
    static HatDraw busy() {
        HatDraw h = four(5);
        Due.lay(h, 0, 1, 2, 3, 0);
        h.year(0);
        h.draw(2);
        h.keep(0);
        Due.lay(h, 0, 2, 0, 3, 1);
        Due.lay(h, 1, 1, 0, 3, 2);
        Due.lay(h, 2, 1, 2, 0);
        Due.lay(h, 3, 1, 2, 2, 0);
        h.row(4, 0);
        Due.write(h, 1, "m1");
        h.text(2, 0);
        h.alike(1, 0);
        for (int k = 0; k < 3; k++) {
            h.at(5, 0);
        }
        h.mean(4);
        h.mate(3, 2);
        return h;
    }

    static HatDraw full() {
        HatDraw h = busy();
        for (int k = h.count(2); k < 12; k++) {
            h.year(0);
        }
        return h;
    }

    /** Two have drawn each other, which is against the rules by now. */
    static HatDraw stuck() {
        HatDraw h = busy();
        h.undo(0);
        h.rules(0);
        h.draw(1);
        h.draw(0);
        h.rules(1);
        return h;
    }

    static HatDraw allDrawn() {
        HatDraw h = busy();
        h.play(1);
        return h;
    }

    /** One mate: there is no right drawing. */
    static HatDraw alone() {
        HatDraw h = busy();
        Due.write(h, 0, "m11");
        h.office(0);
        return h;
    }

    static HatDraw nobody() {
        return new HatDraw();
    }

    static List<Refused> all() {
        Refusals list = new Refusals();
        list.ofRows();
        list.ofTexts();
        list.ofOffices();
        list.ofDrawings();
        list.ofPapers();
        list.ofYears();
        list.ofTalk();
        list.ofRules();
        return list.all;
    }

    private void bad(String call, ToIntFunction<HatDraw> by) {
        all.add(new Refused(call, Refusals::busy, HatDraw.BAD, 0, by));
    }

    private void found(int finding, String call, ToIntFunction<HatDraw> by) {
        found(finding, call, Refusals::busy, by);
    }

    private void found(int finding, String call, Supplier<HatDraw> state, ToIntFunction<HatDraw> by) {
        all.add(new Refused(call, state, HatDraw.FINDING, finding, by));
    }

    private void answered(int answer, String call, Supplier<HatDraw> state, ToIntFunction<HatDraw> by) {
        all.add(new Refused(call, state, answer, 0, by));
    }

    private void ofRows() {
        bad("row(6, 3)", h -> h.row(6, 3));
        bad("row(0, 41)", h -> h.row(0, 41));
        found(SIZE, "row(0, -1)", h -> h.row(0, -1));
        bad("lay(6, 0, 7)", h -> h.lay(6, 0, 7));
        found(NOTHING, "lay(5, 0, 7)", h -> h.lay(5, 0, 7));
        found(BEYOND, "lay(0, 4, 7)", h -> h.lay(0, 4, 7));
        bad("at(6, 0)", h -> h.at(6, 0));
        found(NOTHING, "at(5, 0)", h -> h.at(5, 0));
        found(BEYOND, "at(0, -1)", h -> h.at(0, -1));
        bad("tear(6)", h -> h.tear(6));
        found(NOTHING, "tear(5)", h -> h.tear(5));
        bad("copy(0, 0, 6, 0, 1)", h -> h.copy(0, 0, 6, 0, 1));
        found(SIZE, "copy(0, 0, 1, 0, -1)", h -> h.copy(0, 0, 1, 0, -1));
        found(NOTHING, "copy(0, 0, 5, 0, 1)", h -> h.copy(0, 0, 5, 0, 1));
        found(BEYOND, "copy(0, 0, 2, 0, 4)", h -> h.copy(0, 0, 2, 0, 4));
        bad("mean(6)", h -> h.mean(6));
        found(NOTHING, "mean(5)", h -> h.mean(5));
        found(NOUGHT, "mean(4)", h -> h.mean(4));
    }

    private void ofTexts() {
        bad("text(4, 1)", h -> h.text(4, 1));
        bad("text(0, 61)", h -> h.text(0, 61));
        found(SIZE, "text(0, -1)", h -> h.text(0, -1));
        bad("put(4, 0, 7)", h -> h.put(4, 0, 7));
        found(NOTHING, "put(3, 0, 7)", h -> h.put(3, 0, 7));
        found(BEYOND, "put(1, 2, 7)", h -> h.put(1, 2, 7));
        bad("fault(4)", h -> h.fault(4));
        found(NOTHING, "fault(3)", h -> h.fault(3));
    }

    private void ofOffices() {
        bad("office(4)", h -> h.office(4));
        found(NOTHING, "office(3)", h -> h.office(3));
        answered(HatDraw.STATE, "office(1)", Refusals::busy, h -> h.office(1));
        bad("mate(4, 0)", h -> h.mate(4, 0));
        bad("mate(0, 4)", h -> h.mate(0, 4));
        bad("mark(4, 1)", h -> h.mark(4, 1));
        bad("mark(0, 0)", h -> h.mark(0, 0));
        found(UNLIKE, "mark(0, 1)", h -> h.mark(0, 1));
        bad("rules(16)", h -> h.rules(16));
        bad("move(4, 1)", h -> h.move(4, 1));
        bad("move(0, 10)", h -> h.move(0, 10));
        bad("may(4)", h -> h.may(4));
    }

    private void ofDrawings() {
        bad("judge(6)", h -> h.judge(6));
        noDrawing("judge", HatDraw::judge);
        bad("nth(-1, 0)", h -> h.nth(-1, 0));
        bad("nth(0, 6)", h -> h.nth(0, 6));
        found(NOUGHT, "nth(6, 1)", h -> h.nth(6, 1));
        bad("number(6)", h -> h.number(6));
        noDrawing("number", HatDraw::number);
        answered(HatDraw.NONE, "number(1)", Refusals::busy, h -> h.number(1));
        bad("lot(0, 1)", h -> h.lot(0, 1));
        bad("lot(1, 6)", h -> h.lot(1, 6));
        found(NOUGHT, "lot(1, 1)", Refusals::alone, h -> h.lot(1, 1));
    }

    private void ofPapers() {
        bad("draw(4)", h -> h.draw(4));
        answered(HatDraw.STATE, "draw(2)", Refusals::busy, h -> h.draw(2));
        answered(HatDraw.STATE, "draw(1)", Refusals::busy, h -> h.draw(1));
        answered(HatDraw.STATE, "draw(0)", Refusals::allDrawn, h -> h.draw(0));
        bad("undo(2)", h -> h.undo(2));
        bad("drew(4)", h -> h.drew(4));
        answered(HatDraw.NONE, "drew(1)", Refusals::busy, h -> h.drew(1));
        bad("turns(4, 0)", h -> h.turns(4, 0));
        bad("turns(0, 4)", h -> h.turns(0, 4));
        found(NOUGHT, "turns(0, 1)", Refusals::stuck, h -> h.turns(0, 1));
        bad("alike(4, 0)", h -> h.alike(4, 0));
        bad("alike(0, 4)", h -> h.alike(0, 4));
        found(NOUGHT, "alike(0, 1)", Refusals::stuck, h -> h.alike(0, 1));
        bad("play(0)", h -> h.play(0));
        bad("keep(3)", h -> h.keep(3));
        answered(HatDraw.STATE, "keep(0)", Refusals::nobody, h -> h.keep(0));
        bad("on(3)", h -> h.on(3));
        found(NOTHING, "on(1)", h -> h.on(1));
    }

    private void ofYears() {
        bad("year(6)", h -> h.year(6));
        answered(HatDraw.FULL, "year(0)", Refusals::full, h -> h.year(0));
        answered(HatDraw.STATE, "year(0)", Refusals::nobody, h -> h.year(0));
        noDrawing("year", HatDraw::year);
        bad("forget(2)", h -> h.forget(2));
        bad("times(4, 0)", h -> h.times(4, 0));
        bad("times(0, 4)", h -> h.times(0, 4));
        bad("times(1, 1)", h -> h.times(1, 1));
    }

    private void ofTalk() {
        bad("fits(6, 0)", h -> h.fits(6, 0));
        bad("fits(0, 16)", h -> h.fits(0, 16));
        noRightDrawing("fits", (h, r) -> h.fits(r, 1));
        bad("known(6, 0)", h -> h.known(6, 0));
        bad("known(0, 16)", h -> h.known(0, 16));
        noRightDrawing("known", (h, r) -> h.known(r, 1));
        bad("still(6, 1)", h -> h.still(6, 1));
        bad("still(0, 16)", h -> h.still(0, 16));
        noRightDrawing("still", (h, r) -> h.still(r, 1));
        answered(HatDraw.NONE, "still(0, 0)", Refusals::busy, h -> h.still(0, 0));
        bad("fewest(6)", h -> h.fewest(6));
        noRightDrawing("fewest", HatDraw::fewest);
    }

    private void ofRules() {
        answered(HatDraw.NONE, "drop()", Refusals::alone, HatDraw::drop);
        bad("table(4)", h -> h.table(4));
        bad("rings(6)", h -> h.rings(6));
        noDrawing("rings", HatDraw::rings);
        bad("ringed(7)", h -> h.ringed(7));
        found(NOUGHT, "ringed(1)", Refusals::alone, h -> h.ringed(1));
        bad("even(6)", h -> h.even(6));
        answered(HatDraw.NONE, "even(1)", Refusals::alone, h -> h.even(1));
        bad("gain(6, 0)", h -> h.gain(6, 0));
        bad("gain(0, 4)", h -> h.gain(0, 4));
        noDrawing("gain", (h, r) -> h.gain(r, 0));
        bad("count(8)", h -> h.count(8));
        bad("findings(6)", h -> h.findings(6));
    }

    /** A call that wants a drawing in a row. */
    interface OfRow {
        int call(HatDraw h, int r);
    }

    private void noDrawing(String name, OfRow by) {
        found(NOTHING, name + " of no row", h -> by.call(h, 5));
        found(SIZE, name + " of three", h -> by.call(h, 2));
        found(UNLIKE, name + " of one twice", h -> by.call(h, 3));
    }

    private void noRightDrawing(String name, OfRow by) {
        noDrawing(name, by);
        found(UNLIKE, name + " of one that is not right", h -> by.call(h, 1));
    }

    // ---- what the promises that want a drawing in a row have in common: four mates, row 3 is free for it

    /** Row 3 is missing; of no row at all one looks at nothing else. */
    static void missing(HatDraw h, OfRow by) {
        h.row(3, 4);
        h.tear(3);
        Due.finds("of a row that is torn", h, NOTHING, () -> by.call(h, 3));
        HatDraw other = four(0);
        for (int r = 0; r < 6; r++) {
            int row = r;
            Due.finds("of row " + r + " that was never there", other, NOTHING, () -> by.call(other, row));
        }
    }

    static void notAsMany(HatDraw h, OfRow by) {
        int[][] rows = {{}, {1}, {1, 2, 0}, {1, 2, 3, 0, 4}, {-1, 9, 9}, new int[40]};
        for (int[] ints : rows) {
            Due.lay(h, 3, ints);
            Due.finds("of " + ints.length + " places", h, SIZE, () -> by.call(h, 3));
        }
    }

    static void noneOfMates(HatDraw h, OfRow by) {
        int[] none = {4, 5, 7, 8, -1, -4, 2147483647, -2147483648};
        for (int x = 0; x < 4; x++) {
            for (int v : none) {
                Due.lay(h, 3, 1, 2, 3, 0);
                h.lay(3, x, v);
                Due.finds("place " + x + " is " + v, h, UNLIKE, () -> by.call(h, 3));
            }
        }
    }

    static void oneTwice(HatDraw h, OfRow by) {
        for (int x = 0; x < 4; x++) {
            for (int y = 0; y < 4; y++) {
                if (y != (x + 1) % 4) {
                    Due.lay(h, 3, 1, 2, 3, 0);
                    h.lay(3, x, y);
                    Due.finds("place " + x + " is " + y + ", too", h, UNLIKE, () -> by.call(h, 3));
                }
            }
        }
        h.row(3, 4);
        Due.finds("all draw one", h, UNLIKE, () -> by.call(h, 3));
    }
}
