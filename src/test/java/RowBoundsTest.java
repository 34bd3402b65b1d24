/** The bounds of promises 31 to 38, and of what the Terms say of THE ROW. */
public final class RowBoundsTest {
    private static final int LEAST = Integer.MIN_VALUE, MOST = Integer.MAX_VALUE;
    private static final long NO = PullsToTheLeft.NO;
    private static final Due due = new Due();
    private static final Bounds bounds = new Bounds(due);
    private static final Bounds full = new Bounds(due, x -> {
        for (int n = 5; n < 8; n++) x.come(9 * n);
    });
    private static final Bounds empty = new Bounds(due, () -> {
        PullsToTheLeft x = new PullsToTheLeft();
        x.film(0, 30);
        return x;
    });

    public static void main(String[] args) {
        // 31
        comeRanges();
        eightCome();
        // 32
        ruleRanges();
        ruleOfAnyWhereItDoesNotMatter();
        ruleFirstTold();
        ruleFromLeastToMost();
        // The Terms: LOOKS, BEARS, AWAY, GUESTS.
        looksFrom1To8();
        looksAtAllIfThereAreFewer();
        bearsJustThatMuch();
        leastBadOfLikeOnes();
        dueAgainByAway();
        noneStandsThere();
        behindAllOfThemAllAre();
        // 33
        meetsRanges();
        meetsFromNoneTo24();
        // 34
        dayRanges();
        dayTruly();
        // 35
        standsRanges();
        // 36
        shareRanges();
        shareInLowestTerms();
        // 37
        bestRanges();
        bestFrom1To8();
        // 38
        firstRanges();
        firstOrLastTrolley();
        firstIfLess();
        due.end();
    }

    private static void comeRanges() {
        bounds.range("31: come", -2, 0, 99, (x, v) -> x.come(v));
        full.outside("31: come, BAD ahead of FULL", -2, 0, 99, (x, v) -> x.come(v));
        full.keeps("31: FULL", -4, x -> x.come(0));
        full.keeps("31: FULL", -4, x -> x.come(99));
    }

    private static void eightCome() {
        PullsToTheLeft x = new PullsToTheLeft();
        int[] bad = {0, 99, 1, 98, 50, 0, 99, 30};
        for (int t = 0; t < 8; t++) {
            due.same("31: its number", t, x.come(bad[t]));
            due.same("31: behind", t, x.stands(t));
        }
        due.same("31: FULL", -4, x.come(1));
        for (int t = 0; t < 8; t++) due.same("31: so bad", bad[t], x.rule(0, t, bad[t]));
    }

    private static void ruleRanges() {
        bounds.range("32: rule what", -5, 0, 3, (x, v) -> x.rule(v, 0, 1));
        bounds.range("32: rule a trolley", -5, 0, 4, (x, v) -> x.rule(0, v, 1));
        full.range("32: rule a trolley of 8", -5, 0, 7, (x, v) -> x.rule(0, v, 1));
        bounds.range("32: rule how bad", -7, 0, 99, (x, v) -> x.rule(0, 4, v));
        bounds.range("32: rule looks", -7, 1, 8, (x, v) -> x.rule(1, 0, v));
        bounds.range("32: rule bears", -7, 0, 99, (x, v) -> x.rule(2, 0, v));
        bounds.range("32: rule away", -7, 0, 5, (x, v) -> x.rule(3, 0, v));
        for (int of : new int[] {LEAST, -1, 0, 7, MOST}) {
            empty.keeps("32: there is no trolley " + of, -5, x -> x.rule(0, of, 1));
        }
        due.same("32: the others are ruled without any", 1, new PullsToTheLeft().rule(1, 0, 8));
    }

    private static void ruleOfAnyWhereItDoesNotMatter() {
        bounds.any("32: of does not matter, looks", 2, (x, v) -> x.rule(1, v, 8));
        bounds.any("32: of does not matter, bears", 33, (x, v) -> x.rule(2, v, 99));
        bounds.any("32: of does not matter, away", 3, (x, v) -> x.rule(3, v, 5));
        bounds.any("32: of does not matter, then -7", -7, (x, v) -> x.rule(1, v, 9));
        bounds.any("32: of does not matter, then -7", -7, (x, v) -> x.rule(2, v, 100));
        bounds.any("32: of does not matter, then -7", -7, (x, v) -> x.rule(3, v, 6));
    }

    private static void ruleFirstTold() {
        for (int v : new int[] {LEAST, -1, 100, MOST}) {
            bounds.keeps("32: -5 ahead of -7, what -1", -5, x -> x.rule(-1, 0, v));
            bounds.keeps("32: -5 ahead of -7, what 4", -5, x -> x.rule(4, 0, v));
            bounds.keeps("32: -5 ahead of -7, trolley -1", -5, x -> x.rule(0, -1, v));
            bounds.keeps("32: -5 ahead of -7, trolley 5", -5, x -> x.rule(0, 5, v));
        }
    }

    private static void ruleFromLeastToMost() {
        int[] least = {0, 1, 0, 0};
        int[] most = {99, 8, 99, 5};
        int[] was = {7, 1, 30, 2};
        for (int what = 0; what < 4; what++) {
            PullsToTheLeft x = new PullsToTheLeft();
            x.come(3);
            x.come(7);
            int last = was[what];
            for (int v = least[what]; v <= most[what]; v++) {
                due.same("32: what it was", last, x.rule(what, 1, v));
                last = v;
            }
            due.same("32: the most", last, x.rule(what, 1, least[what]));
            due.same("32: the other trolley", 3, x.rule(0, 0, 3));
        }
    }

    /** The later one stands, the less bad it is: so bad is the best of those that are looked at. */
    private static void looksFrom1To8() {
        for (int looks = 1; looks <= 8; looks++) {
            PullsToTheLeft x = Made.row(looks, 0, 5, 90, 80, 70, 60, 50, 40, 30, 20);
            due.same("looks " + looks, 100 - 10 * looks, x.meets(1, 0));
            due.same("looks " + looks, 1 << (looks - 1), x.meets(1, 2));
            x = Made.row(looks, 20, 5, 90, 80, 70, 60, 50, 40, 20, 20);
            due.same("borne, if it is looked at", looks == 8 ? 20 : 100 - 10 * looks - (looks == 7 ? 10 : 0), x.meets(1, 0));
        }
    }

    private static void looksAtAllIfThereAreFewer() {
        PullsToTheLeft x = Made.row(8, 0, 5, 3, 2);
        due.same("the best of two", 2, x.meets(1, 0));
        due.same("then the only one", 5, x.meets(2, 0));
        due.same("then none", 5, x.meets(3, 0));
        x = Made.row(2, 0, 5, 9);
        due.same("the only one", 9, x.meets(1, 0));
        due.same("both are looked at", 9, Made.row(3, 0, 5, 10, 9).meets(1, 0));
    }

    private static void bearsJustThatMuch() {
        for (int bears : new int[] {0, 1, 30, 98, 99}) {
            int beyond = Math.min(99, bears + 1);
            due.same("just bears " + bears, bears, Made.row(2, bears, 5, bears, 0).meets(1, 0));
            if (beyond > bears) due.same("1 more is too bad", 0, Made.row(2, bears, 5, beyond, 0).meets(1, 0));
        }
        due.same("bears 99: the first in any case", 99, Made.row(8, 99, 5, 99, 0).meets(1, 0));
        due.same("bears 0: the first that is 0", 4, Made.row(8, 0, 5, 5, 1, 0, 0).meets(1, 2));
        due.same("the first that is borne, not the best", 2, Made.row(8, 30, 5, 31, 30, 29).meets(1, 2));
    }

    private static void leastBadOfLikeOnes() {
        due.same("of like ones the first", 1, Made.row(8, 0, 5, 9, 9, 9).meets(1, 2));
        due.same("of like ones the first", 2, Made.row(8, 0, 5, 10, 9, 9).meets(1, 2));
        due.same("the last is less bad", 4, Made.row(8, 0, 5, 10, 9, 8).meets(1, 2));
        due.same("99 and 98", 2, Made.row(8, 97, 5, 99, 98).meets(1, 2));
    }

    /** One trolley, so bad as 1: how often it is met tells when it was back. */
    private static void dueAgainByAway() {
        int[] in24 = {24, 12, 8, 6, 5, 4};
        for (int away = 0; away <= 5; away++) {
            PullsToTheLeft x = Made.row(1, 30, away, 1);
            due.same("met once by guest 0", 1, x.meets(1, 0));
            due.same("not yet back, away " + away, 1, x.meets(1 + away, 0));
            due.same("back, away " + away, 2, x.meets(2 + away, 0));
            due.same("not yet back again", 2, x.meets(2 + 2 * away, 0));
            due.same("back again", 3, x.meets(3 + 2 * away, 0));
            due.same("by 24 guests, away " + away, in24[away], x.meets(24, 0));
        }
    }

    private static void noneStandsThere() {
        for (int away = 0; away <= 5; away++) {
            PullsToTheLeft x = Made.row(8, 99, away);
            due.same("nobody at all", 0, x.meets(24, 0));
            due.same("nobody at all", -1, x.meets(24, 3));
        }
        PullsToTheLeft x = Made.row(1, 0, 5, 10, 20);
        due.same("guests 2 to 5 meet none", 30, x.meets(6, 0));
        due.same("guest 6 does", 40, x.meets(7, 0));
        due.same("guest 7, too", 60, x.meets(8, 0));
        due.same("guest 8 meets none", 60, x.meets(12, 0));
        due.same("guest 12 does", 70, x.meets(13, 0));
    }

    private static void behindAllOfThemAllAre() {
        PullsToTheLeft x = Made.row(1, 0, 5, 1, 2, 3);
        due.same("behind no guest", 0, x.meets(0, 3));
        due.same("behind one", 1, x.meets(1, 3));
        due.same("behind two", 2, x.meets(2, 3));
        due.same("behind three, as they were taken", 0, x.meets(3, 3));
        due.same("three", 0, x.day(3));
        for (int p = 0; p < 3; p++) due.same("as they were taken", p, x.stands(p));
        due.same("the next day they are all there", 1, x.day(1));
        int[] then = {1, 2, 0};
        for (int p = 0; p < 3; p++) due.same("as they were taken", then[p], x.stands(p));
    }

    private static void meetsRanges() {
        bounds.range("33: meets n", -2, 0, 24, (x, v) -> x.meets(v, 0));
        bounds.range("33: meets what", -2, 0, 3, (x, v) -> x.meets(24, v));
        bounds.keeps("33: both are wrong", -2, x -> x.meets(25, 4));
        for (int what = 0; what < 4; what++) {
            int asked = what;
            bounds.onlyAsks("33: meets(24, " + what + ")", x -> x.meets(24, asked));
        }
    }

    private static void meetsFromNoneTo24() {
        PullsToTheLeft x = Made.row(1, 0, 0, 99, 99, 99, 99, 99, 99, 99, 99);
        for (int n = 0; n <= 24; n++) {
            due.same("33: bad of all", 99 * n, x.meets(n, 0));
            due.same("33: the most", n == 0 ? 0 : 99, x.meets(n, 1));
            due.same("33: which", (1 << Math.min(8, n)) - 1, x.meets(n, 2));
            due.same("33: in front", n % 8, x.meets(n, 3));
        }
        for (int n = 24; n >= 0; n--) {
            due.same("33: of fewer again, bad", 99 * n, x.meets(n, 0));
            due.same("33: of fewer again, the most", n == 0 ? 0 : 99, x.meets(n, 1));
            due.same("33: of fewer again, which", (1 << Math.min(8, n)) - 1, x.meets(n, 2));
        }
        x = Made.row(1, 0, 0);
        for (int what = 0; what < 4; what++) due.same("33: no trolleys", what == 3 ? -1 : 0, x.meets(24, what));
    }

    private static void dayRanges() {
        bounds.range("34: day", -2, 0, 24, (x, v) -> x.day(v));
        empty.range("34: day without trolleys", -2, 0, 24, (x, v) -> x.day(v));
        empty.keeps("34: no trolleys", -1, x -> x.day(0));
        empty.keeps("34: no trolleys", -1, x -> x.day(24));
        bounds.onlyAsks("34: no guest", x -> x.day(0));
    }

    private static void dayTruly() {
        for (int n = 0; n <= 24; n++) {
            PullsToTheLeft x = Made.row(2, 15, 3, 40, 10, 20, 30, 15);
            int front = x.meets(n, 3);
            due.same("34: in front at last", front, x.day(n));
            due.same("34: truly", front, x.stands(0));
            due.same("34: the next day begins there", front, x.day(0));
            int all = 0;
            for (int p = 0; p < 5; p++) all |= 1 << x.stands(p);
            due.same("34: all of them stand there", 31, all);
            due.same("34: as bad as they were", 40, x.rule(0, 0, 0));
        }
    }

    private static void standsRanges() {
        bounds.range("35: stands", -5, 0, 4, (x, v) -> x.stands(v));
        full.range("35: stands of 8", -5, 0, 7, (x, v) -> x.stands(v));
        for (int place : new int[] {LEAST, -1, 0, 1, 7, MOST}) {
            empty.keeps("35: nobody stands at " + place, -5, x -> x.stands(place));
        }
        bounds.onlyAsks("35: stands(0)", x -> x.stands(0));
    }

    private static void shareRanges() {
        bounds.range("36: share n", NO, 1, 24, (x, v) -> x.share(v, 0));
        bounds.range("36: share n", NO, 1, 24, (x, v) -> x.share(v, 1));
        bounds.range("36: share part", NO, 0, 1, (x, v) -> x.share(1, v));
        empty.keeps("36: there are no trolleys", NO, x -> x.share(1, 0));
        empty.keeps("36: there are no trolleys", NO, x -> x.share(24, 1));
        bounds.onlyAsks("36: share(24, 0)", x -> x.share(24, 0));
        bounds.onlyAsks("36: share(24, 1)", x -> x.share(24, 1));
    }

    private static void share(PullsToTheLeft x, int n, int above, int below) {
        due.same("36: above, of " + n, above, x.share(n, 0));
        due.same("36: below, of " + n, below, x.share(n, 1));
    }

    private static void shareInLowestTerms() {
        share(Made.row(1, 0, 0, 99), 24, 0, 1);
        share(Made.row(1, 0, 5, 0, 0), 24, 0, 1);
        // 4 times 99 by 24, less 99.
        share(Made.row(1, 0, 5, 99), 24, -165, 2);
        // 4 by 23, less 1 by 7: nothing to cut.
        share(Made.row(1, 0, 0, 1, 0, 0, 0, 0, 0, 0), 23, 5, 161);
        share(Made.row(1, 0, 0, 99, 0, 0, 0, 0, 0, 0, 0), 1, 693, 8);
        share(Made.row(1, 0, 0, 0, 0, 0, 0, 0, 0, 0, 99), 1, -99, 8);
        share(Made.row(1, 0, 0, 0, 0, 0, 0, 0, 0, 0, 99), 24, 0, 1);
        share(Made.row(1, 0, 0, 4, 2), 1, 1, 1);
    }

    private static void bestRanges() {
        bounds.range("37: best n", -2, 0, 24, (x, v) -> x.best(v, 0));
        bounds.range("37: best n, that", -2, 0, 24, (x, v) -> x.best(v, 1));
        bounds.range("37: best what", -2, 0, 1, (x, v) -> x.best(24, v));
        bounds.keeps("37: both are wrong", -2, x -> x.best(-1, 2));
        bounds.onlyAsks("37: best(24, 0)", x -> x.best(24, 0));
        bounds.onlyAsks("37: best(24, 1)", x -> x.best(24, 1));
    }

    private static void bestFrom1To8() {
        PullsToTheLeft x = new PullsToTheLeft();
        due.same("37: no trolleys", 1, x.best(24, 0));
        due.same("37: no trolleys", 0, x.best(24, 1));
        for (int place = 1; place <= 8; place++) {
            x = Made.row(1, 0, 5);
            for (int t = 1; t <= 8; t++) x.come(t == place ? 1 : 50);
            due.same("37: no guest", 1, x.best(0, 0));
            due.same("37: no guest", 0, x.best(0, 1));
            due.same("37: the good one is looked at", place, x.best(1, 0));
            due.same("37: that", 1, x.best(1, 1));
            due.same("37: in thought", 1, x.rule(1, 0, 8));
            due.same("37: whatever it is now", place, x.best(1, 0));
        }
    }

    private static void firstRanges() {
        bounds.range("38: first n", -2, 0, 24, (x, v) -> x.first(v, 0));
        bounds.range("38: first n, that", -2, 0, 24, (x, v) -> x.first(v, 1));
        bounds.range("38: first what", -2, 0, 1, (x, v) -> x.first(24, v));
        bounds.keeps("38: both are wrong", -2, x -> x.first(25, -1));
        bounds.onlyAsks("38: first(24, 0)", x -> x.first(24, 0));
        bounds.onlyAsks("38: first(24, 1)", x -> x.first(24, 1));
    }

    private static void firstOrLastTrolley() {
        for (int worst = 0; worst < 8; worst++) {
            PullsToTheLeft x = Made.row(1, 0, 5);
            for (int t = 0; t < 8; t++) x.come(t == worst ? 99 : 98);
            due.same("38: the worst of 8 that are met", worst, x.first(8, 0));
            due.same("38: that", 7 * 98, x.first(8, 1));
        }
        due.same("38: of like ones the first", 0, Made.row(1, 0, 5, 7, 7).first(2, 0));
        due.same("38: that", 7, Made.row(1, 0, 5, 7, 7).first(2, 1));
    }

    private static void firstIfLess() {
        PullsToTheLeft x = Made.row(1, 0, 5, 0, 9);
        due.same("38: only the first is met", -1, x.first(1, 0));
        due.same("38: as now", 0, x.first(1, 1));
        due.same("38: then the second", 1, x.first(2, 0));
        due.same("38: that", 0, x.first(2, 1));
        due.same("38: no guest", -1, x.first(0, 0));
        due.same("38: no guest", 0, x.first(0, 1));
        x = new PullsToTheLeft();
        due.same("38: no trolleys", -1, x.first(24, 0));
        due.same("38: no trolleys", 0, x.first(24, 1));
        x = Made.row(1, 0, 5, 0, 0);
        due.same("38: none is bad", -1, x.first(24, 0));
        due.same("38: as now", 0, x.first(24, 1));
    }
}
