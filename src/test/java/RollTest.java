/** Promises 12 and 13, and with them what a roll does: at, roll. */
public final class RollTest {
    private static final Due due = new Due();

    public static void main(String[] args) {
        hands();
        loads();
        kindsDrag();
        kindsWish();
        bumps();
        namesOfDrags();
        namesOfHolds();
        namesOfBumps();
        tenthsInTexts();
        bounds();
        refused();
        due.end();
    }

    private static int pull(PullsToTheLeft x, int t) {
        return x.at(t, 0);
    }

    private static void hands() {
        PullsToTheLeft x = new PullsToTheLeft();
        x.set(2, 0, 1);
        due.same("pull", 3, pull(x, 0));
        for (int t = 0; t < 30; t++) due.same("aside", Math.max(-20, -t - 1), x.at(t, 1));
        due.same("holding", 30, x.roll(0));
        due.same("bumps", 90, x.roll(1));
        due.same("bumps in", (1 << 30) - (1 << 20), x.roll(2));
        due.same("farthest", 20, x.roll(3));
        due.same("at the end", -20, x.roll(4));
        x.set(1, 0, 2);
        due.same("pull", -3, pull(x, 29));
        due.same("cut, to the right", 1, x.at(0, 1));
        due.same("at the end", 20, x.roll(4));
        due.same("holding", 90, x.roll(0));
    }

    private static void loads() {
        PullsToTheLeft x = new PullsToTheLeft();
        x.set(0, 0, 1);
        due.same("pull", 2, pull(x, 0));
        due.same("6 by 8 is cut", 0, x.roll(4));
        x.set(0, 5, 2);
        due.same("pull", 6, pull(x, 0));
        x.set(0, 2, 3);
        due.same("pull", 0, pull(x, 0));
        x.set(0, 7, 10);
        due.same("pull", -20, pull(x, 0));
        due.same("-60 by 8 is cut", 7, x.at(0, 1));
        x.set(3, 0, 9);
        due.same("-180 by 8 is beyond", 20, x.at(0, 1));
        due.same("farthest", 20, x.roll(3));
    }

    /** A wheel to the right, with a load of 5 and more 2, against a plain one with that load. */
    private static void kindsDrag() {
        int[] first = {0, -2 * 6, 5, -2 * 6, 6, 12};
        int[] last = {0, -2 * 6, 5, -2 * 6 - 29 * 2 / 4, -6, 12};
        for (int kind = 0; kind < 6; kind++) {
            PullsToTheLeft x = new PullsToTheLeft();
            x.set(0, 0, 5);
            x.set(0, 2, 3);
            x.set(0, 3, 2);
            x.wheel(1, kind, 2);
            due.same("kind " + kind, first[kind], pull(x, 0));
            due.same("kind " + kind, last[kind], pull(x, 29));
        }
        PullsToTheLeft x = new PullsToTheLeft();
        x.wheel(0, 5, 2);
        x.set(0, 0, 6);
        due.same("lifted by 6", -2, pull(x, 0));
        x.set(0, 1, 1);
        due.same("not lifted by 7", 14, pull(x, 0));
        x.wheel(0, 5, 0);
        due.same("not lifted", 14, pull(x, 0));
        x.set(0, 0, 0);
        x.set(0, 1, 0);
        due.same("lifted by 0", -2, pull(x, 0));
        x.wheel(0, 3, 3);
        int[] more = {0, 0, 1, 2, 3, 3, 4, 5};
        for (int t = 0; t < 8; t++) due.same("threaded", 3 + more[t], pull(x, t));
    }

    private static void kindsWish() {
        for (int w = 0; w < 4; w++) {
            PullsToTheLeft x = new PullsToTheLeft();
            x.wheel(w, 2, 0);
            due.same("turning", 1, pull(x, 3));
            x.wheel(w, 2, 9);
            due.same("turning", 19, pull(x, 3));
            x.wheel(w, 4, 3);
            due.same("pace is not above more", 7, pull(x, 0));
            due.same("pace is not above more", 7, pull(x, 1));
            x.set(3, 0, 4);
            due.same("pace is above more", 6, pull(x, 0));
            due.same("pace is above more", -6, pull(x, 1));
            x.set(3, 0, 9);
            due.same("pace is far above more", 36, pull(x, 28));
            due.same("pace is far above more", -36, pull(x, 29));
        }
    }

    private static void bumps() {
        PullsToTheLeft x = new PullsToTheLeft();
        x.set(1, 0, 3);
        due.same("-9 times 3 by 8", 3, x.at(0, 1));
        x.set(4, 0, 3);
        due.same("just as wide", 0, x.roll(2) & 1);
        x.set(4, 0, 2);
        due.same("above", 1, x.roll(2) & 1);
        due.same("it is just wide aside", 2, x.at(0, 1));
        due.same("it goes on from there", 5, x.at(1, 1));
        x.set(4, 9, 1);
        due.same("pushed back", 1, x.at(9, 1));
        due.same("goes on from there", 4, x.at(10, 1));
        due.same("farthest", 20, x.roll(3));
        x.set(1, 0, 0);
        x.set(2, 0, 3);
        due.same("to the left", -2, x.at(0, 1));
        due.same("to the left", -20, x.roll(4));
        Made.allWide(x, 99);
        due.same("farthest is without sign", 90, x.roll(3));
        due.same("it bumps nowhere", 0, x.roll(2));
        due.same("bumps", 0, x.roll(1));
    }

    private static void namesOfDrags() {
        PullsToTheLeft x = Made.by(due, "drags hand*8;holds 0;bumps 0;");
        x.set(1, 0, 1);
        x.set(2, 0, 3);
        due.same("hand", 6 + 16 - 48, pull(x, 0));
        x = Made.by(due, "drags (wheel=2)*pace;holds 0;bumps 0;");
        due.same("pace of wheel 2", 3, pull(x, 0));
        x.set(3, 0, 8);
        due.same("pace of wheel 2", 8, pull(x, 0));
        x = Made.by(due, "drags wheel*wheel;holds 0;bumps 0;");
        due.same("wheel", 0 - 1 + 4 - 9, pull(x, 0));
        x = Made.by(due, "drags more;holds 0;bumps 0;");
        x.wheel(3, 0, 7);
        x.wheel(0, 0, 2);
        due.same("more", 2 - 7, pull(x, 0));
        x = Made.by(due, "drags load;holds 0;bumps 0;");
        x.set(0, 6, 30);
        x.set(0, 7, 31);
        due.same("load", -61, pull(x, 0));
    }

    private static void namesOfHolds() {
        PullsToTheLeft x = Made.by(due, "drags 0;holds hand+10*wheel;bumps 0;");
        x.set(1, 0, 2);
        x.set(2, 0, 3);
        due.same("holding", 30 * (2 + 13), x.roll(0));
        x = Made.by(due, "drags 0;holds load+more+pace;bumps 0;");
        x.wheel(0, 0, 9);
        x.wheel(1, 0, 9);
        x.set(0, 0, 40);
        due.same("load and more are 0", 30 * (3 + 3), x.roll(0));
        x = Made.by(due, "drags 0;holds tenth;bumps 0;");
        due.same("tenth", 2 * 435, x.roll(0));
    }

    private static void namesOfBumps() {
        PullsToTheLeft x = Made.by(due, "drags 0;holds 0;bumps load+50*wheel;");
        x.set(1, 0, 9);
        x.set(3, 0, 8);
        x.set(4, 0, 5);
        for (int t = 1; t < 30; t++) x.set(4, t, 99);
        // 27 a tenth: 22 beyond at first, then 32, 59, 86, and 14 beyond, then always 27.
        due.same("to the right", 72 + (50 + 14) + 25 * (50 + 27), x.roll(1));
        x.set(1, 0, 0);
        x.set(2, 0, 9);
        due.same("to the left", 22 + 14 + 25 * 27, x.roll(1));
        x = Made.by(due, "drags 0;holds 0;bumps hand+more+pace;");
        x.wheel(0, 0, 9);
        x.wheel(1, 0, 9);
        x.set(2, 0, 9);
        // 10 a tenth: just 20 behind two, beyond in each of the other 28.
        due.same("pace alone", 28 * 3, x.roll(1));
        x = Made.by(due, "drags 0;holds 0;bumps tenth;");
        x.set(2, 0, 1);
        due.same("tenth", 20 + 21 + 22 + 23 + 24 + 25 + 26 + 27 + 28 + 29, x.roll(1));
        x = Made.by(due, "drags 99*(wheel=1);holds 0;bumps load;");
        x.wheel(1, 1, 9);
        x.set(0, 2, 40);
        x.set(0, 3, 40);
        x.set(3, 0, 9);
        due.same("99 at most", 30 * 99, x.roll(1));
        Due.read(x, "drags 99*(wheel=1);holds 0;bumps 101-load;");
        x.force(2);
        due.same("99 at most", 30 * 2, x.roll(1));
    }

    private static void tenthsInTexts() {
        PullsToTheLeft x = Made.by(due, "drags (wheel=0)*tenth;holds 0;bumps 0;");
        for (int t = 0; t < 30; t++) due.same("tenth " + t, t, pull(x, t));
        due.same("aside", -(0 + 0 + 0 + 1 + 1 + 1 + 2), x.at(6, 1));
        x = Made.by(due, "drags 0;holds 0;bumps 7*(tenth<25);");
        x.set(2, 0, 1);
        due.same("bumps", 5 * 7, x.roll(1));
    }

    private static void bounds() {
        PullsToTheLeft x = Made.by(due, "drags (wheel=0)*150-(wheel=1)*150;holds 100*(wheel=1)-9;bumps 0-5;");
        due.same("99 at most, 0 at least", 99, pull(x, 0));
        due.same("holding", 30 * 91, x.roll(0));
        due.same("bumps", 0, x.roll(1));
        due.same("bumps in all", (1 << 30) - 1, x.roll(2));
        x.wheel(0, 1, 9);
        x.set(0, 0, 40);
        due.same("only the text is bounded", 99 + 9 * 41, pull(x, 0));
    }

    private static void refused() {
        PullsToTheLeft x = new PullsToTheLeft();
        due.same("at(30, 0)", -1000000, x.at(30, 0));
        due.same("at(-1, 0)", -1000000, x.at(-1, 0));
        due.same("at(0, 2)", -1000000, x.at(0, 2));
        due.same("at(0, -1)", -1000000, x.at(0, -1));
        due.same("roll(5)", -1000000, x.roll(5));
        due.same("roll(-1)", -1000000, x.roll(-1));
    }
}
