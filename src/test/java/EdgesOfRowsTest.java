/** Promises 1 to 10, sentence by sentence: a new object, rows, texts. */
public final class EdgesOfRowsTest {
    private static final int NOTHING = 1, BEYOND = 2, NOUGHT = 4, SIZE = 5;
    private static final int LEAST = Integer.MIN_VALUE, GREATEST = Integer.MAX_VALUE;

    public static void main(String[] args) throws Exception {
        Sentences.run(EdgesOfRowsTest.class);
    }

    // ---- promise 1

    @Sentence(promise = 1, says = "No ROWS,")
    static void noRows() {
        HatDraw h = new HatDraw();
        Due.is("count", h.count(6), 0);
        for (int r = 0; r < 6; r++) {
            int row = r;
            Due.finds("row " + r, h, NOTHING, () -> h.tear(row));
        }
    }

    @Sentence(promise = 1, says = "TEXTS,")
    static void noTexts() {
        HatDraw h = new HatDraw();
        Due.is("count", h.count(7), 0);
        for (int t = 0; t < 4; t++) {
            int text = t;
            Due.finds("text " + t, h, NOTHING, () -> h.put(text, 0, 1));
        }
    }

    @Sentence(promise = 1, says = "MATES;")
    static void noMates() {
        HatDraw h = new HatDraw();
        for (int what = 0; what <= 5; what++) {
            Due.is("count " + what, h.count(what), 0);
        }
        Due.bad("mate 0", h, () -> h.mate(0, 0));
    }

    @Sentence(promise = 1, says = "RULES 7.")
    static void firstRules() {
        Due.is("rules", new HatDraw().rules(0), 7);
    }

    // ---- promise 2

    @Sentence(promise = 2, says = "A ROW is there with n ints 0: n.")
    static void rowsOfEachSize() {
        for (int n = 0; n <= 40; n++) {
            HatDraw h = new HatDraw();
            int size = n;
            Due.is("ints", h.row(2, n), n);
            for (int i = 0; i < n; i++) {
                Due.told("place " + i + " of " + n, h, h.at(2, i), 0);
            }
            Due.finds("no place " + n, h, BEYOND, () -> h.at(2, size));
            Due.is("rows there", h.count(6), 1);
        }
    }

    @Sentence(promise = 2, says = "A ROW is there with n ints 0: n.")
    static void rowsAnew() {
        HatDraw h = new HatDraw();
        Due.lay(h, 2, 5, 6, 7, 8);
        Due.lay(h, 3, 9);
        Due.is("fewer", h.row(2, 1), 1);
        Due.holds("fewer", h, 2, 0);
        Due.is("more", h.row(2, 4), 4);
        Due.holds("more", h, 2, 0, 0, 0, 0);
        Due.holds("another one", h, 3, 9);
        Due.is("none", h.row(2, 0), 0);
        Due.is("none is there all the same", h.count(6), 2);
    }

    @Sentence(promise = 2, says = "BAD:")
    static void rowOfNoRow() {
        HatDraw h = Refusals.busy();
        Due.badOutside("row", h, 0, 5, r -> h.row(r, 0));
        Due.badOutside("row, fewer than none", h, 0, 5, r -> h.row(r, -1));
    }

    @Sentence(promise = 2, says = "also n above 40;")
    static void rowOfTooMany() {
        HatDraw h = Refusals.busy();
        Due.bad("41", h, () -> h.row(0, 41));
        Due.bad("the most", h, () -> h.row(0, GREATEST));
        Due.holds("it stays", h, 0, 2, 0, 3, 1);
        Due.is("40", h.row(0, 40), 40);
    }

    @Sentence(promise = 2, says = "SIZE: below 0.")
    static void rowOfFewerThanNone() {
        HatDraw h = Refusals.busy();
        Due.finds("-1", h, SIZE, () -> h.row(0, -1));
        Due.finds("the least", h, SIZE, () -> h.row(5, LEAST));
        Due.holds("it stays", h, 0, 2, 0, 3, 1);
        Due.is("0", h.row(0, 0), 0);
    }

    // ---- promise 3

    @Sentence(promise = 3, says = "Place i of a ROW is v: what it was, told by asked(): 1.")
    static void laid() {
        HatDraw h = new HatDraw();
        h.row(5, 40);
        int[] places = {0, 1, 38, 39};
        int[] values = {LEAST, -1, 7, GREATEST};
        for (int k = 0; k < 4; k++) {
            Due.told("was 0", h, h.lay(5, places[k], values[k]), 0);
        }
        for (int k = 0; k < 4; k++) {
            Due.told("was laid", h, h.lay(5, places[k], 3), values[k]);
        }
        Due.told("the one beside is as it was", h, h.at(5, 2), 0);
        Due.told("as told", h, h.at(5, 39), 3);
    }

    @Sentence(promise = 3, says = "BAD;")
    static void layInNoRow() {
        HatDraw h = Refusals.busy();
        Due.badOutside("row", h, 0, 5, r -> h.lay(r, 0, 1));
        Due.badOutside("row, a place beyond", h, 0, 5, r -> h.lay(r, -1, 1));
    }

    @Sentence(promise = 3, says = "NOTHING;")
    static void layInAMissingRow() {
        HatDraw h = Refusals.busy();
        Due.finds("missing", h, NOTHING, () -> h.lay(5, 0, 1));
        Due.finds("ahead of BEYOND", h, NOTHING, () -> h.lay(5, -1, 1));
        h.tear(0);
        Due.finds("torn", h, NOTHING, () -> h.lay(0, 0, 1));
    }

    @Sentence(promise = 3, says = "BEYOND.")
    static void layBeyond() {
        HatDraw h = Refusals.busy();
        int[] places = {-1, 4, 5, 39, 40, LEAST, GREATEST};
        for (int i : places) {
            Due.finds("place " + i, h, BEYOND, () -> h.lay(0, i, 1));
        }
        Due.finds("of an empty row", h, BEYOND, () -> h.lay(4, 0, 1));
        h.row(5, 40);
        Due.finds("place 40 of 40", h, BEYOND, () -> h.lay(5, 40, 1));
    }

    // ---- promise 4

    @Sentence(promise = 4, says = "Place i of a ROW, told by asked(): 1.")
    static void lookedAt() {
        HatDraw h = new HatDraw();
        for (int r = 0; r < 6; r++) {
            Due.lay(h, r, LEAST, r, GREATEST);
        }
        for (int r = 0; r < 6; r++) {
            Due.told("first", h, h.at(r, 0), LEAST);
            Due.told("second", h, h.at(r, 1), r);
            Due.told("last", h, h.at(r, 2), GREATEST);
        }
    }

    @Sentence(promise = 4, says = "BAD;")
    static void atNoRow() {
        HatDraw h = Refusals.busy();
        Due.badOutside("row", h, 0, 5, r -> h.at(r, 0));
        Due.badOutside("row, a place beyond", h, 0, 5, r -> h.at(r, -1));
    }

    @Sentence(promise = 4, says = "NOTHING;")
    static void atAMissingRow() {
        HatDraw h = Refusals.busy();
        Due.finds("missing", h, NOTHING, () -> h.at(5, 0));
        Due.finds("ahead of BEYOND", h, NOTHING, () -> h.at(5, 40));
        h.tear(0);
        Due.finds("torn", h, NOTHING, () -> h.at(0, 0));
    }

    @Sentence(promise = 4, says = "BEYOND.")
    static void atBeyond() {
        HatDraw h = Refusals.busy();
        int[] places = {-1, 4, 5, 39, 40, LEAST, GREATEST};
        for (int i : places) {
            Due.finds("place " + i, h, BEYOND, () -> h.at(0, i));
        }
        Due.finds("of an empty row", h, BEYOND, () -> h.at(4, 0));
        h.row(5, 40);
        Due.finds("place 40 of 40", h, BEYOND, () -> h.at(5, 40));
    }

    // ---- promise 5

    @Sentence(promise = 5, says = "A ROW is missing: 1.")
    static void torn() {
        HatDraw h = new HatDraw();
        for (int r = 0; r < 6; r++) {
            Due.lay(h, r, 7, 8);
        }
        for (int r = 0; r < 6; r++) {
            int row = r;
            Due.is("torn", h.tear(r), 1);
            Due.finds("row " + r, h, NOTHING, () -> h.at(row, 0));
            Due.is("the others are there", h.count(6), 5 - r);
        }
        Due.is("there again", h.row(3, 2), 2);
        Due.holds("anew", h, 3, 0, 0);
        h.row(4, 0);
        Due.is("an empty one", h.tear(4), 1);
    }

    @Sentence(promise = 5, says = "BAD;")
    static void tearNoRow() {
        HatDraw h = Refusals.busy();
        Due.badOutside("row", h, 0, 5, h::tear);
    }

    @Sentence(promise = 5, says = "NOTHING.")
    static void tearAMissingRow() {
        HatDraw h = Refusals.busy();
        Due.finds("missing", h, NOTHING, () -> h.tear(5));
        h.tear(0);
        Due.finds("torn", h, NOTHING, () -> h.tear(0));
    }

    // ---- promise 6

    private static HatDraw rows() {
        HatDraw h = new HatDraw();
        Due.lay(h, 0, 1, 2, 3, 4, 5);
        Due.lay(h, 5, 6, 7, 8);
        h.row(2, 0);
        h.mean(0);
        return h;
    }

    @Sentence(promise = 6, says = "n places of a ROW, from one on, come to those of another one")
    static void copied() {
        HatDraw h = rows();
        Due.is("the last three", h.copy(0, 2, 5, 0, 3), 1);
        Due.holds("they came", h, 5, 3, 4, 5);
        Due.holds("they are there still", h, 0, 1, 2, 3, 4, 5);
        Due.is("one to the last place", h.copy(0, 0, 5, 2, 1), 1);
        Due.holds("it came", h, 5, 3, 4, 1);
        h.row(1, 40);
        h.row(3, 40);
        for (int i = 0; i < 40; i++) {
            h.lay(1, i, i * i);
        }
        Due.is("forty", h.copy(1, 0, 3, 0, 40), 1);
        for (int i = 0; i < 40; i++) {
            Due.told("place " + i, h, h.at(3, i), i * i);
        }
    }

    @Sentence(promise = 6, says = "(perhaps itself) from one on, as if taken ahead: 1.")
    static void copiedInItself() {
        HatDraw h = rows();
        Due.is("onward", h.copy(0, 0, 0, 1, 4), 1);
        Due.holds("onward", h, 0, 1, 1, 2, 3, 4);
        Due.is("back", h.copy(0, 2, 0, 0, 3), 1);
        Due.holds("back", h, 0, 2, 3, 4, 3, 4);
        Due.is("where it is", h.copy(0, 0, 0, 0, 5), 1);
        Due.holds("where it is", h, 0, 2, 3, 4, 3, 4);
    }

    @Sentence(promise = 6, says = "BAD;")
    static void copyOfNoRow() {
        HatDraw h = Refusals.busy();
        Due.badOutside("from", h, 0, 5, r -> h.copy(r, 0, 0, 0, 1));
        Due.badOutside("to", h, 0, 5, r -> h.copy(0, 0, r, 0, 1));
        Due.badOutside("both, none", h, 0, 5, r -> h.copy(r, 0, r, 0, 0));
    }

    @Sentence(promise = 6, says = "SIZE: n below 0;")
    static void copyOfFewerThanNone() {
        HatDraw h = rows();
        Due.finds("-1", h, SIZE, () -> h.copy(0, 1, 5, 1, -1));
        Due.finds("the least", h, SIZE, () -> h.copy(0, 1, 5, 1, LEAST));
        Due.is("0", h.copy(0, 1, 5, 1, 0), 1);
    }

    @Sentence(promise = 6, says = "NOTHING: either;")
    static void copyOfAMissingRow() {
        HatDraw h = rows();
        Due.finds("from", h, NOTHING, () -> h.copy(3, 0, 0, 0, 0));
        Due.finds("to", h, NOTHING, () -> h.copy(0, 0, 3, 0, 0));
        Due.finds("both", h, NOTHING, () -> h.copy(3, 0, 3, 0, 0));
        h.tear(0);
        Due.finds("torn, from", h, NOTHING, () -> h.copy(0, 0, 5, 0, 1));
        Due.finds("torn, to", h, NOTHING, () -> h.copy(5, 0, 0, 0, 1));
    }

    @Sentence(promise = 6, says = "BEYOND: not so many there")
    static void copyBeyond() {
        HatDraw h = rows();
        int[][] far = {{0, 0, 4}, {2, 0, 4}, {3, 0, 3}, {0, 1, 3}, {0, 3, 1}, {5, 0, 1}, {-1, 0, 1}, {0, -1, 1}, {-1, -1, 3}};
        for (int[] f : far) {
            Due.finds("from " + f[0] + " to " + f[1] + ", " + f[2], h, BEYOND, () -> h.copy(0, f[0], 5, f[1], f[2]));
        }
        Due.finds("of an empty row", h, BEYOND, () -> h.copy(2, 0, 0, 0, 1));
        Due.finds("to an empty row", h, BEYOND, () -> h.copy(0, 0, 2, 0, 1));
        Due.is("all that are there", h.copy(0, 0, 5, 0, 3), 1);
    }

    @Sentence(promise = 6, says = "BEYOND: not so many there")
    static void copyFarBeyond() {
        HatDraw h = rows();
        int[][] far = {{0, 0, GREATEST}, {1, 1, GREATEST}, {GREATEST, 0, 1}, {0, GREATEST, 1}, {GREATEST, GREATEST, GREATEST},
            {LEAST, 0, 1}, {0, LEAST, 1}, {LEAST, LEAST, GREATEST}};
        for (int[] f : far) {
            Due.finds("from " + f[0] + " to " + f[1] + ", " + f[2], h, BEYOND, () -> h.copy(0, f[0], 5, f[1], f[2]));
        }
    }

    @Sentence(promise = 6, says = "(with n 0, too, if i or j is below 0 or above the size).")
    static void copyOfNone() {
        HatDraw h = rows();
        int[][] far = {{-1, 0}, {0, -1}, {6, 0}, {0, 4}, {LEAST, 0}, {0, LEAST}, {GREATEST, 0}, {0, GREATEST}};
        for (int[] f : far) {
            Due.finds("none from " + f[0] + " to " + f[1], h, BEYOND, () -> h.copy(0, f[0], 5, f[1], 0));
        }
        int[][] near = {{0, 0}, {5, 0}, {0, 3}, {5, 3}};
        for (int[] f : near) {
            Due.stays("none from " + f[0] + " to " + f[1], h, 1, () -> h.copy(0, f[0], 5, f[1], 0));
        }
        Due.stays("none of none", h, 1, () -> h.copy(2, 0, 2, 0, 0));
    }

    @Sentence(promise = 6, says = "(In this order.)")
    static void copyRefusedInOrder() {
        HatDraw h = rows();
        Due.bad("BAD ahead of all", h, () -> h.copy(6, 9, 3, 9, -1));
        Due.bad("BAD, too, by where to", h, () -> h.copy(3, 9, 6, 9, -1));
        Due.finds("SIZE ahead of NOTHING, BEYOND", h, SIZE, () -> h.copy(3, 9, 0, 9, -1));
        Due.finds("SIZE ahead of NOTHING by where to", h, SIZE, () -> h.copy(0, 9, 3, 9, -1));
        Due.finds("SIZE ahead of BEYOND", h, SIZE, () -> h.copy(0, 9, 5, 9, -1));
        Due.finds("NOTHING ahead of BEYOND", h, NOTHING, () -> h.copy(3, -1, 0, 9, 1));
        Due.finds("NOTHING by where to ahead of BEYOND", h, NOTHING, () -> h.copy(0, 9, 3, -1, 1));
    }

    // ---- promise 7

    private static void mean(int due, int... ints) {
        HatDraw h = new HatDraw();
        Due.lay(h, 1, ints);
        Due.told("mean", h, h.mean(1), due);
    }

    @Sentence(promise = 7, says = "The mean of a ROW's ints, cut, told by asked(): 1.")
    static void means() {
        mean(9, 9);
        mean(2, 1, 2, 5);
        mean(2, 2, 2, 2, 3, 3);
        mean(-2, -3, -2);
        mean(0, -1, 0);
        mean(0, 1, -1);
        HatDraw h = new HatDraw();
        h.row(0, 40);
        h.lay(0, 39, 119);
        Due.told("all forty count", h, h.mean(0), 2);
    }

    @Sentence(promise = 7, says = "The mean of a ROW's ints, cut, told by asked(): 1.")
    static void meansOfGreatInts() {
        mean(GREATEST, GREATEST, GREATEST);
        mean(LEAST, LEAST, LEAST, LEAST);
        mean(0, LEAST, GREATEST);
        mean(1431655764, GREATEST, GREATEST, 0);
        HatDraw h = new HatDraw();
        h.row(0, 40);
        for (int i = 0; i < 40; i++) {
            h.lay(0, i, LEAST);
        }
        Due.told("forty of the least", h, h.mean(0), LEAST);
    }

    @Sentence(promise = 7, says = "BAD;")
    static void meanOfNoRow() {
        HatDraw h = Refusals.busy();
        Due.badOutside("row", h, 0, 5, h::mean);
    }

    @Sentence(promise = 7, says = "NOTHING;")
    static void meanOfAMissingRow() {
        HatDraw h = Refusals.busy();
        Due.finds("missing", h, NOTHING, () -> h.mean(5));
        h.tear(4);
        Due.finds("torn, it was empty", h, NOTHING, () -> h.mean(4));
    }

    @Sentence(promise = 7, says = "NOUGHT.")
    static void meanOfNone() {
        HatDraw h = Refusals.busy();
        Due.finds("an empty row", h, NOUGHT, () -> h.mean(4));
        h.row(0, 0);
        Due.finds("a row that had ints", h, NOUGHT, () -> h.mean(0));
    }

    // ---- promise 8

    @Sentence(promise = 8, says = "A TEXT is there with n blanks: n.")
    static void textsOfEachSize() {
        for (int n = 0; n <= 60; n++) {
            HatDraw h = new HatDraw();
            int size = n;
            Due.is("blanks", h.text(3, n), n);
            for (int i = 0; i < n; i++) {
                Due.is("place " + i + " of " + n, h.put(3, i, 0), 1032);
            }
            Due.finds("no place " + n, h, BEYOND, () -> h.put(3, size, 0));
            Due.is("texts there", h.count(7), 1);
        }
    }

    @Sentence(promise = 8, says = "A TEXT is there with n blanks: n.")
    static void textsAnew() {
        HatDraw h = new HatDraw();
        Due.write(h, 1, "m11");
        Due.write(h, 2, "b22");
        Due.is("fewer", h.text(1, 1), 1);
        Due.is("more", h.text(1, 3), 3);
        for (int i = 0; i < 3; i++) {
            Due.is("blank again", h.put(1, i, 109), 1032);
        }
        Due.is("another one", h.put(2, 0, 98), 1098);
        Due.is("none", h.text(1, 0), 0);
        Due.is("none is there all the same", h.count(7), 2);
    }

    @Sentence(promise = 8, says = "BAD:")
    static void textOfNoText() {
        HatDraw h = Refusals.busy();
        Due.badOutside("text", h, 0, 3, t -> h.text(t, 0));
        Due.badOutside("text, fewer than none", h, 0, 3, t -> h.text(t, -1));
    }

    @Sentence(promise = 8, says = "also n above 60;")
    static void textOfTooMany() {
        HatDraw h = Refusals.busy();
        Due.bad("61", h, () -> h.text(1, 61));
        Due.bad("the most", h, () -> h.text(1, GREATEST));
        Due.is("it stays", h.put(1, 0, 0), 1109);
        Due.is("60", h.text(1, 60), 60);
    }

    @Sentence(promise = 8, says = "SIZE: below 0.")
    static void textOfFewerThanNone() {
        HatDraw h = Refusals.busy();
        Due.finds("-1", h, SIZE, () -> h.text(1, -1));
        Due.finds("the least", h, SIZE, () -> h.text(3, LEAST));
        Due.is("it stays", h.put(1, 0, 0), 1109);
        Due.is("0", h.text(1, 0), 0);
    }

    // ---- promise 9

    @Sentence(promise = 9, says = "Byte i of a TEXT is v, cut to a byte (-128 .. 127)")
    static void bytesAreCut() {
        int[] values = {0, 1, 127, 128, 129, 255, 256, 300, -1, -127, -128, -129, -256, 65536 + 109, GREATEST, LEAST};
        int[] bytes = {0, 1, 127, -128, -127, -1, 0, 44, -1, -127, -128, 127, 0, 109, -1, 0};
        HatDraw h = new HatDraw();
        h.text(0, 60);
        for (int k = 0; k < values.length; k++) {
            h.put(0, 59, values[k]);
            Due.is("byte of " + values[k], h.put(0, 59, 0), 1000 + bytes[k]);
        }
        Due.is("the one beside is as it was", h.put(0, 58, 0), 1032);
    }

    @Sentence(promise = 9, says = ": what it was, and 1000 more.")
    static void aThousandMore() {
        HatDraw h = new HatDraw();
        h.text(0, 1);
        Due.is("a blank", h.put(0, 0, -128), 1032);
        Due.is("the least", h.put(0, 0, 127), 872);
        Due.is("the greatest", h.put(0, 0, 0), 1127);
        Due.is("nought", h.put(0, 0, 1), 1000);
        Due.is("asked() is not told", h.asked(), 0);
    }

    @Sentence(promise = 9, says = "BAD;")
    static void putInNoText() {
        HatDraw h = Refusals.busy();
        Due.badOutside("text", h, 0, 3, t -> h.put(t, 0, 1));
        Due.badOutside("text, a place beyond", h, 0, 3, t -> h.put(t, -1, 1));
    }

    @Sentence(promise = 9, says = "NOTHING;")
    static void putInAMissingText() {
        HatDraw h = Refusals.busy();
        Due.finds("missing", h, NOTHING, () -> h.put(3, 0, 1));
        Due.finds("ahead of BEYOND", h, NOTHING, () -> h.put(3, 60, 1));
    }

    @Sentence(promise = 9, says = "BEYOND.")
    static void putBeyond() {
        HatDraw h = Refusals.busy();
        int[] places = {-1, 2, 3, 59, 60, LEAST, GREATEST};
        for (int i : places) {
            Due.finds("place " + i, h, BEYOND, () -> h.put(1, i, 1));
        }
        Due.finds("of an empty text", h, BEYOND, () -> h.put(2, 0, 1));
        h.text(3, 60);
        Due.finds("place 60 of 60", h, BEYOND, () -> h.put(3, 60, 1));
    }

    // ---- promise 10

    @Sentence(promise = 10, says = "A FAULT of a TEXT;")
    static void faults() {
        HatDraw h = new HatDraw();
        String[] letters = {"x", " m1x", "m11 m", "m11m22m33m44m55m66 m77"};
        int[] due = {0, 3, 5, 19};
        for (int t = 0; t < 4; t++) {
            Due.write(h, t, letters[t]);
        }
        for (int t = 0; t < 4; t++) {
            int text = t;
            Due.stays("fault of '" + letters[t] + "'", h, due[t], () -> h.fault(text));
        }
    }

    @Sentence(promise = 10, says = "A FAULT of a TEXT;")
    static void faultsAtTheEndOfItsPlaces() {
        HatDraw h = new HatDraw();
        h.text(0, 60);
        h.put(0, 59, 109);
        Due.is("a letter at the end", h.fault(0), 60);
        h.put(0, 58, 109);
        h.put(0, 59, 57);
        Due.is("a table at the end", h.fault(0), 60);
        h.put(0, 57, 109);
        h.put(0, 58, 57);
        Due.is("a worth at the end", h.fault(0), HatDraw.NONE);
        Due.write(h, 0, "m12");
        h.text(0, 2);
        h.put(0, 0, 109);
        h.put(0, 1, 49);
        Due.is("what was there ahead is gone", h.fault(0), 2);
    }

    @Sentence(promise = 10, says = "NONE: there is none.")
    static void noFault() {
        HatDraw h = Refusals.busy();
        Due.stays("an office", h, HatDraw.NONE, () -> h.fault(0));
        Due.stays("an empty text", h, HatDraw.NONE, () -> h.fault(2));
        h.text(3, 60);
        Due.stays("sixty blanks", h, HatDraw.NONE, () -> h.fault(3));
    }

    @Sentence(promise = 10, says = "BAD;")
    static void faultOfNoText() {
        HatDraw h = Refusals.busy();
        Due.badOutside("text", h, 0, 3, h::fault);
    }

    @Sentence(promise = 10, says = "NOTHING.")
    static void faultOfAMissingText() {
        HatDraw h = Refusals.busy();
        Due.finds("missing", h, NOTHING, () -> h.fault(3));
    }
}
