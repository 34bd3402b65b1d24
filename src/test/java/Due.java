/** Counts the answers that are not the ones that are due, and says which. */
final class Due {
    private int wrong = 0;
    private int asked = 0;

    void same(String call, long want, long got) {
        asked++;
        if (got != want) {
            wrong++;
            System.out.println(call + " answered " + got + ", due is " + want);
        }
    }

    void same(String call, String want, String got) {
        asked++;
        if (!want.equals(got)) {
            wrong++;
            System.out.println(call + " answered " + got + ", due is " + want);
        }
    }

    /** Any answer but that one. */
    void other(String call, long refusal, long got) {
        asked++;
        if (got == refusal) {
            wrong++;
            System.out.println(call + " answered " + got + ", due is another answer");
        }
    }

    void end() {
        System.out.println(asked + " answers, " + wrong + " of them not as due");
        if (wrong != 0) System.exit(1);
    }

    /** Feeds a whole text, byte by byte, and answers what text() says of it. */
    static int read(PullsToTheLeft x, String text) {
        feed(x, text);
        return x.text();
    }

    static void feed(PullsToTheLeft x, String text) {
        for (int i = 0; i < text.length(); i += 5) {
            int n = Math.min(5, text.length() - i);
            int[] b = new int[5];
            for (int k = 0; k < n; k++) b[k] = text.charAt(i + k);
            x.feed(n, b[0], b[1], b[2], b[3], b[4]);
        }
    }
}
