/** What lots do to the plainest trolley, reckoned apart from the class. */
final class Lots {
    private Lots() { }

    /** Each lot of a seed is the last one times 48271, the first one that of the seed and 1. */
    static long next(long lot) {
        return lot * 48271 % 2147483647;
    }

    private static int hand(int told, long lot) {
        int v = told + (int) (lot % 3) - 1;
        return v < 0 ? 0 : v > 9 ? 9 : v;
    }

    /** Of four plain wheels without loads: where it is at the end, or where it bumps (bits). */
    static int plainly(int left, int right, int pace, long seed, int what) {
        long lot = seed + 1;
        int aside = 0;
        int bits = 0;
        for (int t = 0; t < 30; t++) {
            lot = next(lot);
            aside -= 3 * (hand(right, lot / 3) - hand(left, lot)) * pace / 8;
            if (aside > 20 || aside < -20) {
                bits |= 1 << t;
                aside = aside > 0 ? 20 : -20;
            }
        }
        return what == 0 ? aside : bits;
    }
}
