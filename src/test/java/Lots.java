import java.math.BigInteger;

/** Lots by numbers that know no bound. */
final class Lots {
    private static final BigInteger FACTOR = BigInteger.valueOf(48271), MODULUS = BigInteger.valueOf(2147483647);

    private Lots() {
    }

    private static BigInteger next(BigInteger lot) {
        return lot.multiply(FACTOR).mod(MODULUS);
    }

    /** The first lot of a seed, modulo how many there are. */
    static int first(int seed, int many) {
        return next(BigInteger.valueOf(seed)).mod(BigInteger.valueOf(many)).intValueExact();
    }

    /** Who would be drawn from the hat on, by lots of a seed; the hat is as it was then. */
    static int[] played(HatDraw h, int seed) {
        int had = h.count(1);
        int mates = h.count(0);
        int[] papers = new int[mates];
        BigInteger lot = BigInteger.valueOf(seed);
        for (int x = 0; x < mates; x++) {
            if (x < had) {
                papers[x] = h.drew(x);
                continue;
            }
            int can = h.can();
            lot = next(lot);
            int left = lot.mod(BigInteger.valueOf(Integer.bitCount(can))).intValueExact();
            papers[x] = -1;
            for (int y = 0; y < mates && papers[x] < 0; y++) {
                if ((can >> y & 1) != 0 && left-- == 0) {
                    papers[x] = y;
                }
            }
            h.draw(papers[x]);
        }
        h.undo(had);
        return papers;
    }
}
