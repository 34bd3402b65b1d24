/** Objects made for one question, by what matters to it. */
final class Made {
    private Made() { }

    /** That text is the law. */
    static PullsToTheLeft by(Due due, String text) {
        PullsToTheLeft x = new PullsToTheLeft();
        due.same(text, 1, Due.read(x, text));
        x.force(1);
        return x;
    }

    /** Trolleys so bad, and how guests choose among them. */
    static PullsToTheLeft row(int looks, int bears, int away, int... bad) {
        PullsToTheLeft x = new PullsToTheLeft();
        for (int b : bad) x.come(b);
        x.rule(1, 0, looks);
        x.rule(2, 0, bears);
        x.rule(3, 0, away);
        return x;
    }

    static void allWide(PullsToTheLeft x, int wide) {
        for (int t = 0; t < 30; t++) x.set(4, t, wide);
    }
}
