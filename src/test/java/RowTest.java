/** Promises 31 to 38: come, rule, meets, day, stands, share, best, first. */
public final class RowTest {
    private static final Due due = new Due();

    public static void main(String[] args) {
        come();
        rule();
        ruleRefused();
        meetsTheFirst();
        meetsTheBetter();
        awayAndBack();
        oneTrolley();
        meetsRefused();
        day();
        share();
        best();
        first();
        due.end();
    }

    private static void come() {
        PullsToTheLeft x = new PullsToTheLeft();
        due.same("come(-1)", -2, x.come(-1));
        due.same("come(100)", -2, x.come(100));
        for (int t = 0; t < 8; t++) due.same("come", t, x.come(t % 2 * 99));
        due.same("bad ahead of full", -2, x.come(100));
        due.same("full", -4, x.come(0));
        due.same("eight", 8, x.count(0));
        for (int t = 0; t < 8; t++) due.same("one behind the other", t, x.stands(t));
        due.same("so bad", 99, x.rule(0, 7, 0));
        due.same("stands(8)", -5, x.stands(8));
        due.same("stands(-1)", -5, x.stands(-1));
        x = new PullsToTheLeft();
        due.same("nobody", -5, x.stands(0));
        x.come(1);
        due.same("somebody", 0, x.stands(0));
        due.same("nobody", -5, x.stands(1));
    }

    private static void rule() {
        PullsToTheLeft x = new PullsToTheLeft();
        x.come(5);
        x.come(6);
        due.same("bad", 6, x.rule(0, 1, 99));
        due.same("bad", 99, x.rule(0, 1, 0));
        due.same("bad", 5, x.rule(0, 0, 7));
        due.same("looks", 1, x.rule(1, -9, 8));
        due.same("looks", 8, x.rule(1, 99, 1));
        due.same("bears", 30, x.rule(2, -9, 99));
        due.same("bears", 99, x.rule(2, 99, 0));
        due.same("away", 2, x.rule(3, -9, 5));
        due.same("away", 5, x.rule(3, 99, 0));
        due.same("away", 0, x.rule(3, 99, 0));
    }

    private static void ruleRefused() {
        PullsToTheLeft x = new PullsToTheLeft();
        due.same("no trolley", -5, x.rule(0, 0, 5));
        x.come(5);
        due.same("what", -5, x.rule(-1, 0, 999));
        due.same("what", -5, x.rule(4, 0, 0));
        due.same("trolley", -5, x.rule(0, 1, 999));
        due.same("trolley", -5, x.rule(0, -1, 0));
        int[] below = {-1, 0, -1, -1};
        int[] above = {100, 9, 100, 6};
        int[] was = {5, 1, 30, 2};
        for (int what = 0; what < 4; what++) {
            due.same("v below", -7, x.rule(what, 0, below[what]));
            due.same("v above", -7, x.rule(what, 0, above[what]));
            due.same("nothing changed", was[what], x.rule(what, 0, above[what] - 1));
            due.same("v least", above[what] - 1, x.rule(what, 0, below[what] + 1));
        }
    }

    private static void meets(PullsToTheLeft x, int n, int bad, int most, int bits, int front) {
        due.same("bad of " + n, bad, x.meets(n, 0));
        due.same("most of " + n, most, x.meets(n, 1));
        due.same("which of " + n, bits, x.meets(n, 2));
        due.same("in front behind " + n, front, x.meets(n, 3));
    }

    private static void meetsTheFirst() {
        PullsToTheLeft x = Made.row(1, 30, 2, 50, 10, 40);
        meets(x, 0, 0, 0, 0, 0);
        meets(x, 1, 50, 50, 1, 1);
        meets(x, 2, 60, 50, 3, 2);
        // All three are out: they come back as they were taken.
        meets(x, 3, 100, 50, 7, 0);
        // Trolley 0 is due as guest 3 comes.
        meets(x, 4, 150, 50, 7, 1);
        meets(x, 24, 800, 50, 7, 0);
    }

    private static void meetsTheBetter() {
        PullsToTheLeft x = Made.row(2, 30, 2, 50, 10, 40);
        meets(x, 1, 10, 10, 2, 0);
        meets(x, 2, 50, 40, 6, 0);
        meets(x, 4, 110, 50, 7, 2);
        x = Made.row(8, 30, 2, 50, 30, 10);
        meets(x, 1, 30, 30, 2, 0);
        x = Made.row(8, 29, 2, 50, 30, 10);
        meets(x, 1, 10, 10, 4, 0);
        x = Made.row(8, 5, 2, 50, 10, 10);
        meets(x, 1, 10, 10, 2, 0);
        x = Made.row(2, 0, 2, 50, 60, 10);
        meets(x, 1, 50, 50, 1, 1);
    }

    private static void awayAndBack() {
        // The one that is back stands behind: 0 1 2, 1 2 0, 2 0 1.
        PullsToTheLeft x = Made.row(1, 0, 0, 1, 2, 4);
        meets(x, 2, 3, 2, 3, 2);
        meets(x, 3, 7, 4, 7, 0);
        meets(x, 4, 8, 4, 7, 1);
        x = Made.row(8, 0, 0, 9, 5, 5);
        // 5 of trolley 1, then of 2 which stands ahead of it.
        meets(x, 2, 10, 5, 6, 0);
        meets(x, 3, 15, 5, 6, 0);
        x = Made.row(8, 0, 1, 9, 5, 7);
        meets(x, 2, 12, 7, 6, 0);
        meets(x, 3, 17, 7, 6, 0);
    }

    private static void oneTrolley() {
        PullsToTheLeft x = Made.row(3, 0, 5, 7);
        meets(x, 1, 7, 7, 1, 0);
        meets(x, 6, 7, 7, 1, 0);
        meets(x, 7, 14, 7, 1, 0);
        meets(x, 24, 28, 7, 1, 0);
        x = new PullsToTheLeft();
        meets(x, 24, 0, 0, 0, -1);
    }

    private static void meetsRefused() {
        PullsToTheLeft x = Made.row(1, 30, 2, 50);
        due.same("n", -2, x.meets(-1, 0));
        due.same("n", -2, x.meets(25, 0));
        due.same("what", -2, x.meets(1, -1));
        due.same("what", -2, x.meets(1, 4));
    }

    private static void day() {
        PullsToTheLeft x = Made.row(2, 30, 2, 50, 10, 40, 60);
        due.same("n", -2, x.day(-1));
        due.same("n", -2, x.day(25));
        due.same("no guest", 0, x.day(0));
        // Guest 0 meets 1, guest 1 meets 2, guest 2 meets 0; 3 is left in front.
        due.same("three guests", 3, x.day(3));
        int[] then = {3, 1, 2, 0};
        for (int p = 0; p < 4; p++) due.same("stands", then[p], x.stands(p));
        due.same("the next day", 10, x.meets(1, 0));
        due.same("in thought", 3, x.stands(0));
        x.come(0);
        due.same("the new one stands behind", 4, x.stands(4));
        x = new PullsToTheLeft();
        due.same("nobody", -1, x.day(24));
    }

    private static void share() {
        PullsToTheLeft x = Made.row(3, 0, 5, 7);
        due.same("7 by 1 less 7", 0, x.share(1, 0));
        due.same("0 by 1", 1, x.share(1, 1));
        due.same("7 by 6 less 7", -35, x.share(6, 0));
        due.same("7 by 6 less 7", 6, x.share(6, 1));
        due.same("14 by 7 less 7", -5, x.share(7, 0));
        due.same("14 by 7 less 7", 1, x.share(7, 1));
        x = Made.row(1, 0, 2, 50, 10, 40);
        due.same("50 less 100 by 3", 50, x.share(1, 0));
        due.same("50 less 100 by 3", 3, x.share(1, 1));
        due.same("60 by 2 less 100 by 3", -10, x.share(2, 0));
        due.same("60 by 2 less 100 by 3", 3, x.share(2, 1));
        due.same("n", PullsToTheLeft.NO, x.share(0, 0));
        due.same("n", PullsToTheLeft.NO, x.share(25, 0));
        due.same("part", PullsToTheLeft.NO, x.share(1, 2));
        due.same("part", PullsToTheLeft.NO, x.share(1, -1));
        due.same("no trolleys", PullsToTheLeft.NO, new PullsToTheLeft().share(1, 0));
    }

    private static void best() {
        PullsToTheLeft x = Made.row(7, 30, 2, 50, 10, 40);
        due.same("looks 2", 2, x.best(4, 0));
        due.same("bad then", 110, x.best(4, 1));
        due.same("looks 1 of like ones", 1, x.best(3, 0));
        due.same("bad then", 100, x.best(3, 1));
        due.same("no guest", 1, x.best(0, 0));
        due.same("no guest", 0, x.best(0, 1));
        due.same("in thought", 7, x.rule(1, 0, 1));
        x = Made.row(1, 0, 5, 90, 80, 70, 60, 50, 40, 30, 20);
        due.same("looks 8", 8, x.best(1, 0));
        due.same("bad then", 20, x.best(1, 1));
        due.same("n", -2, x.best(-1, 0));
        due.same("n", -2, x.best(25, 0));
        due.same("what", -2, x.best(1, 2));
        due.same("what", -2, x.best(1, -1));
    }

    private static void first() {
        PullsToTheLeft x = Made.row(1, 30, 2, 50, 10, 40);
        due.same("the one met twice", 0, x.first(4, 0));
        due.same("bad then", 50, x.first(4, 1));
        due.same("no guest", -1, x.first(0, 0));
        due.same("no guest", 0, x.first(0, 1));
        due.same("in thought", 50, x.rule(0, 0, 40));
        due.same("the first of like ones", 0, x.first(3, 0));
        due.same("bad then", 50, x.first(3, 1));
        x.rule(0, 0, 0);
        due.same("as it is already", -1, x.first(1, 0));
        due.same("as now", 0, x.first(1, 1));
        x = Made.row(3, 0, 2, 50, 10, 40);
        due.same("10 is met now, 0 would be", 0, x.first(1, 0));
        due.same("bad then", 0, x.first(1, 1));
        due.same("n", -2, x.first(-1, 0));
        due.same("n", -2, x.first(25, 0));
        due.same("what", -2, x.first(1, 2));
        due.same("what", -2, x.first(1, -1));
    }
}
