import java.util.Arrays;
import java.util.function.IntSupplier;
import java.util.function.IntUnaryOperator;

/** What the tests share: due answers, and short ways to set up an object. */
final class Due {
    private static final int FINDING_AT = 4;
    private static int wrong = 0;
    private static int looked = 0;
    private static String test = "";

    private Due() {
    }

    /** What is looked at from here on belongs to this test. */
    static void begin(String name) {
        test = name.isEmpty() ? "" : name + ": ";
    }

    static int looked() {
        return looked;
    }

    static void is(String what, long got, long want) {
        looked++;
        if (got != want) {
            wrong++;
            System.out.println(test + what + " answered " + got + ", due is " + want);
        }
    }

    /** The call was refused with this finding, and nothing else was changed. */
    static void refused(String what, HatDraw h, long before, int got, int finding) {
        is(what, got, HatDraw.FINDING);
        is(what + ": finding", h.finding(), finding);
        is(what + ": digest", h.digest(), before);
    }

    /** What an object tells of itself without being changed: the finding first, its counts behind it. */
    private static long[] seen(HatDraw h) {
        return new long[] {h.digest(), h.asked(), h.upper(), h.lower(), h.finding(),
            h.findings(1), h.findings(2), h.findings(3), h.findings(4), h.findings(5)};
    }

    private static void same(String what, long[] got, long[] want) {
        is(what + " changes " + Arrays.toString(want) + " to " + Arrays.toString(got), Arrays.equals(got, want) ? 1 : 0, 1);
    }

    /** The call answers so (BAD, FULL, STATE, NONE) and changes nothing at all. */
    static void stays(String what, HatDraw h, int answer, IntSupplier call) {
        long[] before = seen(h);
        is(what, call.getAsInt(), answer);
        same(what, seen(h), before);
    }

    static void bad(String what, HatDraw h, IntSupplier call) {
        stays(what, h, HatDraw.BAD, call);
    }

    /** The call is BAD for the numbers beside these and for the farthest ones. */
    static void badOutside(String what, HatDraw h, int least, int most, IntUnaryOperator call) {
        int[] outside = {least - 1, most + 1, Integer.MIN_VALUE, Integer.MAX_VALUE};
        for (int v : outside) {
            if (v < least || v > most) {
                bad(what + " " + v, h, () -> call.applyAsInt(v));
            }
        }
    }

    /** The call answers FINDING and changes nothing but finding() and how often that one was answered. */
    static void finds(String what, HatDraw h, int finding, IntSupplier call) {
        long[] before = seen(h);
        is(what, call.getAsInt(), HatDraw.FINDING);
        before[FINDING_AT] = finding;
        before[FINDING_AT + finding]++;
        same(what, seen(h), before);
    }

    /** The call told something by asked(), and answered 1. */
    static void told(String what, HatDraw h, int got, int want) {
        is(what, got, 1);
        is(what + ": asked", h.asked(), want);
    }

    /** The call answered so, and told something by asked(). */
    static void both(String what, HatDraw h, int got, int want, int asked) {
        is(what, got, want);
        is(what + ": asked", h.asked(), asked);
    }

    static void fraction(String what, HatDraw h, long up, long low) {
        is(what + ": upper", h.upper(), up);
        is(what + ": lower", h.lower(), low);
    }

    static void write(HatDraw h, int t, String letters) {
        h.text(t, letters.length());
        for (int i = 0; i < letters.length(); i++) {
            h.put(t, i, letters.charAt(i));
        }
    }

    static HatDraw office(String letters) {
        HatDraw h = new HatDraw();
        write(h, 0, letters);
        h.office(0);
        return h;
    }

    static void lay(HatDraw h, int r, int... ints) {
        h.row(r, ints.length);
        for (int i = 0; i < ints.length; i++) {
            h.lay(r, i, ints[i]);
        }
    }

    static void holds(String what, HatDraw h, int r, int... ints) {
        for (int i = 0; i < ints.length; i++) {
            is(what + ": at " + i, h.at(r, i), 1);
            is(what + ": place " + i, h.asked(), ints[i]);
        }
        is(what + ": no more places", h.at(r, ints.length), HatDraw.FINDING);
    }

    static void end() {
        System.out.println(wrong == 0 ? looked + " answers are as due" : wrong + " of " + looked + " answers are not as due");
        if (wrong != 0) {
            System.exit(1);
        }
    }
}
