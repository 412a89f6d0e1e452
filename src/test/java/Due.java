/** What the tests share: due answers, and short ways to set up an object. */
final class Due {
    private static int wrong = 0;
    private static int looked = 0;

    private Due() {
    }

    static void is(String what, long got, long want) {
        looked++;
        if (got != want) {
            wrong++;
            System.out.println(what + " answered " + got + ", due is " + want);
        }
    }

    /** The call was refused with this finding, and nothing else was changed. */
    static void refused(String what, HatDraw h, long before, int got, int finding) {
        is(what, got, HatDraw.FINDING);
        is(what + ": finding", h.finding(), finding);
        is(what + ": digest", h.digest(), before);
    }

    /** The call told something by asked(), and answered 1. */
    static void told(String what, HatDraw h, int got, int want) {
        is(what, got, 1);
        is(what + ": asked", h.asked(), want);
    }

    static void fraction(String what, HatDraw h, long up, long low) {
        is(what + ": upper", h.upper(), up);
        is(what + ": lower", h.lower(), low);
    }

    static void write(HatDraw h, int t, String letters) {
        h.text(t, letters.length());
        for (int i = 0; i < letters.length(); i++) {
            h.put(t, i, letters.charAt(i));
        }
    }

    static HatDraw office(String letters) {
        HatDraw h = new HatDraw();
        write(h, 0, letters);
        h.office(0);
        return h;
    }

    static void lay(HatDraw h, int r, int... ints) {
        h.row(r, ints.length);
        for (int i = 0; i < ints.length; i++) {
            h.lay(r, i, ints[i]);
        }
    }

    static void holds(String what, HatDraw h, int r, int... ints) {
        for (int i = 0; i < ints.length; i++) {
            is(what + ": at " + i, h.at(r, i), 1);
            is(what + ": place " + i, h.asked(), ints[i]);
        }
        is(what + ": no more places", h.at(r, ints.length), HatDraw.FINDING);
    }

    static void end() {
        System.out.println(wrong == 0 ? looked + " answers are as due" : wrong + " of " + looked + " answers are not as due");
        if (wrong != 0) {
            System.exit(1);
        }
    }
}
