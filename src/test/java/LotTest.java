/** Promises 39 to 42: drawn, odds, image, back. */
public final class LotTest {
    private static final Due due = new Due();

    public static void main(String[] args) {
        drawn();
        drawnByHands();
        drawnRefused();
        odds();
        oddsRefused();
        image();
        notInTheImage();
        imageOfTheRow();
        due.end();
    }

    private static void drawn() {
        int[] seeds = {0, 1, 2, 7, 42, 1000, 44443, 99998, 99999};
        int[][] hands = {{0, 0}, {9, 9}, {5, 5}, {4, 6}, {9, 0}, {0, 9}};
        for (int[] h : hands) {
            PullsToTheLeft x = new PullsToTheLeft();
            x.set(1, 0, h[0]);
            x.set(2, 0, h[1]);
            for (int pace = 1; pace < 10; pace += 4) {
                x.set(3, 0, pace);
                for (int seed : seeds) {
                    for (int what = 0; what < 2; what++) {
                        due.same("drawn(" + seed + ", " + what + ")",
                                Lots.plainly(h[0], h[1], pace, seed, what), x.drawn(seed, what));
                    }
                }
            }
            due.same("told as they were", h[0], x.look(1, 0));
            due.same("told as they were", h[1], x.look(2, 0));
        }
    }

    /** Lot 1 of seed 0 is 48271: both hands as told. Lot 2 is 182605794: the left one less, the right one more. */
    private static void drawnByHands() {
        PullsToTheLeft x = new PullsToTheLeft();
        due.same("text", 1, Due.read(x, "drags 20*(wheel=0)*(hand=4)*(tenth=1);holds 0;bumps 0;"));
        x.force(1);
        x.set(3, 0, 8);
        x.set(1, 0, 5);
        x.set(2, 0, 5);
        for (int t = 0; t < 30; t++) x.set(4, t, 99);
        int withText = x.drawn(0, 0);
        x.set(4, 1, 25);
        due.same("6 by the hands, 20 by the wheel, in tenth 1", 2, x.drawn(0, 1) & 3);
        due.same("only 1 beyond, not more", withText + 1, x.drawn(0, 0));
        due.same("untouched by lots", 0, x.roll(3));
    }

    private static void drawnRefused() {
        PullsToTheLeft x = new PullsToTheLeft();
        due.same("seed", -1000000, x.drawn(-1, 0));
        due.same("seed", -1000000, x.drawn(100000, 0));
        due.same("what", -1000000, x.drawn(0, 2));
        due.same("what", -1000000, x.drawn(0, -1));
    }

    private static long expectedOdds(int seed, int seeds, int part) {
        int smooth = 0;
        for (int i = 0; i < seeds; i++) {
            if (Lots.plainly(0, 0, 9, (long) seed + i, 1) == 0) smooth++;
        }
        int divisor = seeds;
        while (smooth % divisor != 0 || seeds % divisor != 0) divisor--;
        return part == 0 ? smooth / divisor : seeds / divisor;
    }

    private static void odds() {
        PullsToTheLeft x = new PullsToTheLeft();
        due.same("always", 1, x.odds(5, 20, 0));
        due.same("always", 1, x.odds(5, 20, 1));
        x.set(3, 0, 9);
        for (int seed : new int[] {0, 500, 99990, 99999}) {
            for (int seeds : new int[] {1, 2, 10, 24, 29, 30}) {
                due.same("above", expectedOdds(seed, seeds, 0), x.odds(seed, seeds, 0));
                due.same("below", expectedOdds(seed, seeds, 1), x.odds(seed, seeds, 1));
            }
        }
        x.wheel(0, 2, 9);
        x.set(4, 0, 1);
        due.same("never", 0, x.odds(0, 30, 0));
        due.same("never", 1, x.odds(0, 30, 1));
    }

    private static void oddsRefused() {
        PullsToTheLeft x = new PullsToTheLeft();
        due.same("seed", PullsToTheLeft.NO, x.odds(-1, 1, 0));
        due.same("seed", PullsToTheLeft.NO, x.odds(100000, 1, 0));
        due.same("seeds", PullsToTheLeft.NO, x.odds(0, 0, 0));
        due.same("seeds", PullsToTheLeft.NO, x.odds(0, 31, 0));
        due.same("part", PullsToTheLeft.NO, x.odds(0, 1, 2));
        due.same("part", PullsToTheLeft.NO, x.odds(0, 1, -1));
    }

    private static void image() {
        PullsToTheLeft x = new PullsToTheLeft();
        Due.read(x, "drags 1;holds 1;bumps 1;");
        due.same("none", -3, x.back());
        x.wheel(2, 3, 4);
        x.kick(2);
        x.kick(2);
        x.set(0, 5, 17);
        x.set(1, 0, 3);
        x.set(2, 0, 4);
        x.set(3, 0, 5);
        x.set(4, 29, 6);
        x.force(1);
        due.same("image", 0, x.image());
        for (int again = 0; again < 2; again++) {
            x.wheel(2, 5, 9);
            x.kick(2);
            x.set(0, 5, 1);
            x.set(0, 0, 1);
            x.set(1, 0, 1);
            x.set(2, 0, 1);
            x.set(3, 0, 1);
            x.set(4, 29, 1);
            x.set(4, 0, 1);
            x.force(0);
            due.same("back", 0, x.back());
            due.same("kind", 3, x.told(2, 0));
            due.same("more", 4, x.told(2, 1));
            due.same("kicked", 2, x.told(2, 2));
            due.same("load", 17, x.look(0, 5));
            due.same("load", 0, x.look(0, 0));
            due.same("left", 3, x.look(1, 0));
            due.same("right", 4, x.look(2, 0));
            due.same("pace", 5, x.look(3, 0));
            due.same("wide", 6, x.look(4, 29));
            due.same("wide", 20, x.look(4, 0));
            due.same("law", 1, x.count(2));
        }
        x.set(3, 0, 9);
        x.image();
        x.set(3, 0, 8);
        x.back();
        due.same("the last image", 9, x.look(3, 0));
    }

    private static void notInTheImage() {
        PullsToTheLeft x = new PullsToTheLeft();
        x.image();
        Due.read(x, "drags 1;holds 1;bumps 1;");
        x.force(1);
        x.feed(3, 1, 2, 3, 0, 0);
        x.film(2, 7);
        x.back();
        due.same("texts stay", 2, x.count(1));
        due.same("the law does not", 0, x.count(2));
        due.same("the tape stays", 3, x.count(3));
        due.same("sheets stay", -1, x.judge(2));
    }

    private static void imageOfTheRow() {
        PullsToTheLeft x = new PullsToTheLeft();
        x.come(50);
        x.come(10);
        x.come(40);
        x.rule(1, 0, 2);
        x.rule(2, 0, 33);
        x.rule(3, 0, 4);
        x.day(1);
        due.same("image", 3, x.image());
        x.rule(0, 2, 99);
        x.rule(1, 0, 8);
        x.rule(2, 0, 0);
        x.rule(3, 0, 0);
        x.come(1);
        x.day(7);
        due.same("back", 3, x.back());
        due.same("how many", 3, x.count(0));
        due.same("stands", 0, x.stands(0));
        due.same("stands", 2, x.stands(1));
        due.same("stands", 1, x.stands(2));
        due.same("none more", -5, x.stands(3));
        due.same("bad", 40, x.rule(0, 2, 0));
        due.same("looks", 2, x.rule(1, 0, 1));
        due.same("bears", 33, x.rule(2, 0, 1));
        due.same("away", 4, x.rule(3, 0, 1));
        due.same("the next one's number", 3, x.come(5));
    }
}
