import java.util.function.ToLongFunction;

/** The bounds of promises 39 to 42: drawn, odds, image, back. */
public final class LotBoundsTest {
    private static final long NO = PullsToTheLeft.NO;
    private static final Due due = new Due();
    private static final Bounds bounds = new Bounds(due);
    private static final Bounds withoutImage = new Bounds(due, () -> {
        PullsToTheLeft x = new PullsToTheLeft();
        x.come(5);
        x.wheel(1, 3, 4);
        x.set(0, 7, 40);
        x.film(0, 30);
        return x;
    });

    public static void main(String[] args) {
        // 39
        drawnRanges();
        drawnBySeeds();
        handsWithinTheirBounds();
        // 40
        oddsRanges();
        oddsFromNoneToAll();
        oddsBeyondTheLastSeed();
        oddsThoughBumpsCostNothing();
        // 41, 42
        backWithoutImage();
        imageTouchesNothing();
        backAsOftenAsAsked();
        imageOfNothingAndOfAll();
        imageOfEachNumberOfTrolleys();
        backByEachOfThese();
        due.end();
    }

    private static void drawnRanges() {
        bounds.range("39: drawn by a seed", -1000000, 0, 99999, (x, v) -> x.drawn(v, 0));
        bounds.range("39: drawn by a seed, bumps", -1000000, 0, 99999, (x, v) -> x.drawn(v, 1));
        bounds.range("39: drawn what", -1000000, 0, 1, (x, v) -> x.drawn(7, v));
        bounds.keeps("39: both are wrong", -1000000, x -> x.drawn(100000, 2));
        bounds.onlyAsks("39: drawn(7, 0)", x -> x.drawn(7, 0));
        bounds.onlyAsks("39: drawn(7, 1)", x -> x.drawn(7, 1));
    }

    private static void drawnBySeeds() {
        for (int hand : new int[] {0, 1, 8, 9}) {
            PullsToTheLeft x = new PullsToTheLeft();
            x.set(1, 0, hand);
            x.set(2, 0, hand);
            x.set(3, 0, 9);
            for (int seed : new int[] {0, 1, 99998, 99999}) {
                for (int what = 0; what < 2; what++) {
                    due.same("39: drawn(" + seed + ", " + what + ") by " + hand,
                            Lots.plainly(hand, hand, 9, seed, what), x.drawn(seed, what));
                }
            }
        }
    }

    /** At pace 8 a hand is 3 aside: two hands apart bump beyond 3, and none are, if a bound keeps one of them. */
    private static void handsWithinTheirBounds() {
        for (int hand = 0; hand <= 9; hand++) {
            PullsToTheLeft x = new PullsToTheLeft();
            x.set(1, 0, hand);
            x.set(2, 0, hand);
            x.set(3, 0, 8);
            x.set(4, 0, 3);
            for (int seed = 0; seed < 40; seed++) {
                long lot = Lots.next(seed + 1);
                boolean apart = Math.abs(lot % 3 - lot / 3 % 3) == 2;
                int want = apart && hand > 0 && hand < 9 ? 1 : 0;
                due.same("39: told " + hand + ", seed " + seed, want, x.drawn(seed, 1) & 1);
            }
            due.same("39: as told", hand, x.look(1, 0));
            due.same("39: as told", hand, x.look(2, 0));
        }
    }

    private static void oddsRanges() {
        bounds.range("40: odds by a seed", NO, 0, 99999, (x, v) -> x.odds(v, 30, 0));
        bounds.range("40: odds of seeds", NO, 1, 30, (x, v) -> x.odds(99999, v, 1));
        bounds.range("40: odds part", NO, 0, 1, (x, v) -> x.odds(5, 20, v));
        bounds.keeps("40: all are wrong", NO, x -> x.odds(-1, 31, 2));
        bounds.onlyAsks("40: odds(5, 20, 0)", x -> x.odds(5, 20, 0));
        bounds.onlyAsks("40: odds(5, 20, 1)", x -> x.odds(5, 20, 1));
    }

    private static void oddsFromNoneToAll() {
        PullsToTheLeft x = new PullsToTheLeft();
        x.set(3, 0, 1);
        PullsToTheLeft y = new PullsToTheLeft();
        y.wheel(0, 2, 9);
        y.set(4, 0, 1);
        for (int seeds = 1; seeds <= 30; seeds++) {
            due.same("40: all", 1, x.odds(0, seeds, 0));
            due.same("40: of as many", 1, x.odds(0, seeds, 1));
            due.same("40: none", 0, y.odds(99999, seeds, 0));
            due.same("40: of as many, in lowest terms", 1, y.odds(99999, seeds, 1));
        }
    }

    private static void oddsBeyondTheLastSeed() {
        PullsToTheLeft x = new PullsToTheLeft();
        x.set(1, 0, 5);
        x.set(2, 0, 5);
        x.set(3, 0, 9);
        for (int seed : new int[] {0, 99970, 99971, 99998, 99999}) {
            int smooth = 0;
            for (int seeds = 1; seeds <= 30; seeds++) {
                if (Lots.plainly(5, 5, 9, seed + seeds - 1, 1) == 0) smooth++;
                long above = x.odds(seed, seeds, 0);
                long below = x.odds(seed, seeds, 1);
                due.same("40: as many of so many", smooth * below, above * seeds);
                due.same("40: in lowest terms", 1, commonDivisor(above, below));
            }
        }
    }

    private static void oddsThoughBumpsCostNothing() {
        PullsToTheLeft x = Made.by(due, "drags 99*(wheel=0);holds 0;bumps 0;");
        due.same("40: it bumps, whatever that costs", 0, x.odds(0, 30, 0));
        due.same("40: of as many, in lowest terms", 1, x.odds(0, 30, 1));
    }

    private static long commonDivisor(long a, long b) {
        return b == 0 ? a : commonDivisor(b, a % b);
    }

    private static void backWithoutImage() {
        withoutImage.keeps("42: there is none", -3, x -> x.back());
        due.same("42: there is none", -3, new PullsToTheLeft().back());
    }

    private static void imageTouchesNothing() {
        PullsToTheLeft x = Whole.rich();
        due.same("41: how many trolleys", 5, x.image());
        due.same("42: nothing has come between", 5, x.back());
        due.same("42: all as in the image", Whole.of(imaged()), Whole.of(x));
        due.same("41: but for the image all as it was", butForTheImage(Whole.rich()), butForTheImage(imaged()));
    }

    private static String butForTheImage(PullsToTheLeft x) {
        String all = Whole.of(x);
        return all.substring(0, all.indexOf("\nback"));
    }

    private static PullsToTheLeft imaged() {
        PullsToTheLeft x = Whole.rich();
        x.image();
        return x;
    }

    private static void backAsOftenAsAsked() {
        PullsToTheLeft x = Whole.rich();
        for (int again = 0; again < 3; again++) {
            due.same("42: how many trolleys there are", 3, x.back());
            due.same("42: kind", 5, x.told(3, 0));
            due.same("42: load", 11, x.look(0, 1));
            due.same("42: of the other place none", 0, x.look(0, 2));
            due.same("42: the law", 1, x.count(2));
            x.force(0);
            x.set(0, 1, 12);
            x.set(0, 2, 13);
            x.wheel(3, 1, 1);
            due.same("42: one more comes", 3, x.come(9));
            due.same("42: and one more", 4, x.come(9));
        }
    }

    private static void imageOfNothingAndOfAll() {
        PullsToTheLeft x = new PullsToTheLeft();
        due.same("41: none", 0, x.image());
        for (int t = 0; t < 8; t++) x.come(t);
        x.day(3);
        due.same("42: none", 0, x.back());
        due.same("42: nobody stands there", -5, x.stands(0));
        due.same("42: none to rule", -5, x.rule(0, 0, 0));
        for (int t = 0; t < 8; t++) due.same("42: from 0 on again", t, x.come(99 - t));
        due.same("41: eight", 8, x.image());
        due.same("42: full already", -4, x.come(0));
        x.day(3);
        due.same("42: eight", 8, x.back());
        for (int t = 0; t < 8; t++) {
            due.same("42: as they stood", t, x.stands(t));
            due.same("42: as bad as they were", 99 - t, x.rule(0, t, 0));
        }
        due.same("42: full again", -4, x.come(0));
    }

    private static void imageOfEachNumberOfTrolleys() {
        PullsToTheLeft x = new PullsToTheLeft();
        for (int n = 1; n <= 8; n++) {
            x.come(n);
            due.same("41: how many, though there was no day yet", n, x.image());
            due.same("42: how many", n, x.back());
        }
    }

    /** One thing alone is changed each time, and is back. */
    private static void backByEachOfThese() {
        for (int w = 0; w < 4; w++) {
            int wheel = w;
            isBack("42: kind, more", x -> x.wheel(wheel, 5, 9));
            isBack("42: kicked", x -> x.kick(wheel));
        }
        for (int p = 0; p < 8; p++) {
            int place = p;
            isBack("42: load", x -> x.set(0, place, 40));
        }
        for (int t = 0; t < 30; t++) {
            int tenth = t;
            isBack("42: wide", x -> x.set(4, tenth, 99));
        }
        isBack("42: left hand", x -> x.set(1, 0, 9));
        isBack("42: right hand", x -> x.set(2, 0, 9));
        isBack("42: pace", x -> x.set(3, 0, 9));
        for (int t = 0; t < 5; t++) {
            int trolley = t;
            isBack("42: bad", x -> x.rule(0, trolley, 99));
        }
        isBack("42: looks", x -> x.rule(1, 0, 8));
        isBack("42: bears", x -> x.rule(2, 0, 99));
        isBack("42: away", x -> x.rule(3, 0, 5));
        isBack("42: how they stand", x -> x.day(1));
        isBack("42: how many", x -> x.come(99));
        isBack("42: the law", x -> x.force(1));
    }

    private static void isBack(String what, ToLongFunction<PullsToTheLeft> change) {
        PullsToTheLeft x = imaged();
        change.applyAsLong(x);
        due.same(what + ": how many trolleys", 5, x.back());
        due.same(what + " as in the image", Whole.of(imaged()), Whole.of(x));
    }
}
