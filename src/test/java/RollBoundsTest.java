/** The bounds of promises 12 and 13, of KINDS, and of what the Terms say of a TENTH and a ROLL. */
public final class RollBoundsTest {
    private static final Due due = new Due();
    private static final Bounds bounds = new Bounds(due);

    public static void main(String[] args) {
        // The Terms: KINDS.
        plainWhateverMore();
        stickingByMoreAndLoad();
        turningByMore();
        threadedByMoreAndTenth();
        flutteringByMoreAndPace();
        liftedByMoreAndLoad();
        // The Terms: PULL, ASIDE, WIDE, what the texts are told, what they say.
        handsPull();
        aTenthIsCut();
        justAsWideAndOneBeyond();
        asWideAsCanBe();
        beyondIs99AtMost();
        bumpsOnEitherSide();
        dragsFrom0To99();
        holdsFrom0To99();
        bumpsFrom0To99();
        loadsOf0And80();
        handsHaveNeitherLoadNorMore();
        tenthsNamedAnywhere();
        // 12
        atRanges();
        atTheFirstAndTheLast();
        // 13
        rollRanges();
        rollOfNothing();
        rollOfAllThatCanBe();
        bumpsInTheFirstTenthAlone();
        bumpsInTheLastTenthAlone();
        due.end();
    }

    /** By text 0, the other wheels being plain ones without loads. */
    private static int dragOfLeftWheel(PullsToTheLeft x, int t) {
        return x.at(t, 0) + 2;
    }

    private static void loadOver(PullsToTheLeft x, int w, int load) {
        x.set(0, 2 * w, Math.min(40, load));
        x.set(0, 2 * w + 1, load - Math.min(40, load));
    }

    private static void plainWhateverMore() {
        PullsToTheLeft x = new PullsToTheLeft();
        for (int more = 0; more <= 9; more++) {
            x.wheel(0, 0, more);
            due.same("a plain one, more " + more, 2, dragOfLeftWheel(x, 29));
        }
        loadOver(x, 0, 80);
        due.same("a plain one, full", 99, dragOfLeftWheel(x, 29));
    }

    private static void stickingByMoreAndLoad() {
        PullsToTheLeft x = new PullsToTheLeft();
        for (int load : new int[] {0, 1, 40, 41, 80}) {
            loadOver(x, 0, load);
            for (int more = 0; more <= 9; more++) {
                x.wheel(0, 1, more);
                int said = Math.min(99, 2 + 2 * load);
                due.same("sticking, more " + more + ", load " + load, said + more * (load + 1), dragOfLeftWheel(x, 0));
                due.same("in the last tenth, too", said + more * (load + 1), dragOfLeftWheel(x, 29));
            }
        }
    }

    private static void turningByMore() {
        for (int w = 0; w < 4; w++) {
            PullsToTheLeft x = new PullsToTheLeft();
            for (int more = 0; more <= 9; more++) {
                x.wheel(w, 2, more);
                due.same("turning, more " + more, 2 * more + 1, x.at(0, 0));
                due.same("in an odd tenth, too", 2 * more + 1, x.at(29, 0));
            }
        }
    }

    private static void threadedByMoreAndTenth() {
        for (int more = 0; more <= 9; more++) {
            PullsToTheLeft x = new PullsToTheLeft();
            x.wheel(0, 3, more);
            for (int t = 0; t < 30; t++) {
                due.same("threaded, more " + more + ", tenth " + t, 2 + more + t * more / 4, dragOfLeftWheel(x, t));
            }
            loadOver(x, 0, 80);
            due.same("full, in the last tenth", 99 + more * 81 + 29 * more / 4, dragOfLeftWheel(x, 29));
        }
    }

    private static void flutteringByMoreAndPace() {
        for (int more = 0; more <= 9; more++) {
            PullsToTheLeft x = new PullsToTheLeft();
            x.wheel(3, 4, more);
            for (int pace = 1; pace <= 9; pace++) {
                x.set(3, 0, pace);
                String told = "fluttering, more " + more + ", pace " + pace;
                int even = pace > more ? 6 * (pace - more) : 2 * more + 1;
                int odd = pace > more ? -6 * (pace - more) : 2 * more + 1;
                due.same(told, even, x.at(0, 0));
                due.same(told, odd, x.at(1, 0));
                due.same(told, even, x.at(28, 0));
                due.same(told, odd, x.at(29, 0));
            }
        }
    }

    private static void liftedByMoreAndLoad() {
        for (int more = 0; more <= 9; more++) {
            PullsToTheLeft x = new PullsToTheLeft();
            x.wheel(0, 5, more);
            due.same("lifted, no load, more " + more, 0, dragOfLeftWheel(x, 0));
            loadOver(x, 0, 3 * more);
            due.same("lifted by 3 times " + more, 0, dragOfLeftWheel(x, 29));
            loadOver(x, 0, 3 * more + 1);
            due.same("no more by 1 above", 2 + 2 * (3 * more + 1), dragOfLeftWheel(x, 29));
            loadOver(x, 0, 80);
            due.same("nor by all", 99, dragOfLeftWheel(x, 0));
        }
    }

    private static void handsPull() {
        PullsToTheLeft x = new PullsToTheLeft();
        x.set(2, 0, 9);
        due.same("the right hand alone", 27, x.at(0, 0));
        x.set(1, 0, 9);
        due.same("both", 0, x.at(0, 0));
        x.set(2, 0, 0);
        due.same("the left hand alone", -27, x.at(0, 0));
    }

    private static void aTenthIsCut() {
        int[] pulls = {1, 1, 1, 5, 2, 23, 3};
        int[] paces = {7, 8, 9, 3, 8, 1, 8};
        int[] steps = {0, 1, 1, 1, 2, 2, 3};
        for (int i = 0; i < pulls.length; i++) {
            PullsToTheLeft x = Made.by(due, "drags " + pulls[i] + "*(wheel=0);holds 0;bumps 0;");
            x.set(3, 0, paces[i]);
            due.same(pulls[i] + " times " + paces[i] + " by 8", -steps[i], x.at(0, 1));
            Due.read(x, "drags " + pulls[i] + "*(wheel=1);holds 0;bumps 0;");
            x.force(2);
            due.same(-pulls[i] + " times " + paces[i] + " by 8", steps[i], x.at(0, 1));
        }
    }

    private static void justAsWideAndOneBeyond() {
        for (int w = 0; w < 2; w++) {
            PullsToTheLeft x = Made.by(due, "drags 40*(wheel=" + w + ");holds 0;bumps 9;");
            x.set(3, 0, 1);
            int side = w == 0 ? -1 : 1;
            Made.allWide(x, 99);
            due.same("5 aside", side * 5, x.at(0, 1));
            x.set(4, 0, 5);
            due.same("just as wide", 0, x.roll(2) & 1);
            due.same("just as wide", side * 5, x.at(0, 1));
            x.set(4, 0, 4);
            due.same("one beyond", 1, x.roll(2) & 1);
            due.same("just wide aside", side * 4, x.at(0, 1));
            due.same("and on from there", side * 9, x.at(1, 1));
            x.set(4, 0, 99);
            due.same("95 aside behind tenth 18", side * 95, x.at(18, 1));
            due.same("100 would be beyond 99", side * 99, x.at(19, 1));
            due.same("from there on it always would be", (1 << 30) - (1 << 19), x.roll(2));
        }
    }

    private static void asWideAsCanBe() {
        PullsToTheLeft x = Made.by(due, "drags 99*(wheel=1);holds 0;bumps 9;");
        x.set(3, 0, 8);
        x.set(4, 0, 99);
        due.same("99 aside", 99, x.at(0, 1));
        due.same("is not beyond 99", 0, x.roll(2) & 1);
        x.wheel(1, 1, 1);
        due.same("100 aside", 99, x.at(0, 1));
        due.same("is beyond 99", 1, x.roll(2) & 1);
        x = Made.by(due, "drags 8*(wheel=0);holds 0;bumps 9;");
        x.set(3, 0, 1);
        x.set(4, 0, 1);
        due.same("1 aside", -1, x.at(0, 1));
        due.same("is not beyond 1", 0, x.roll(2) & 1);
        x.set(3, 0, 2);
        due.same("2 aside", -1, x.at(0, 1));
        due.same("is beyond 1", 1, x.roll(2) & 1);
    }

    private static void beyondIs99AtMost() {
        PullsToTheLeft x = Made.by(due, "drags 99*(wheel=1);holds 0;bumps (tenth=0)*(load-50);");
        x.set(3, 0, 8);
        x.set(4, 0, 1);
        due.same("98 beyond", 48, x.roll(1));
        x.wheel(1, 1, 1);
        due.same("99 beyond", 49, x.roll(1));
        x.wheel(1, 1, 2);
        due.same("100 beyond", 49, x.roll(1));
        x.wheel(1, 1, 9);
        loadOver(x, 1, 80);
        due.same("far beyond", 49, x.roll(1));
        x = Made.by(due, "drags 0;holds 0;bumps load;");
        Made.allWide(x, 99);
        x.set(1, 0, 1);
        x.set(3, 0, 8);
        x.set(4, 0, 3);
        due.same("nothing beyond", 0, x.roll(1));
        x.set(4, 0, 2);
        due.same("1 beyond", 1, x.roll(1));
    }

    private static void bumpsOnEitherSide() {
        PullsToTheLeft x = Made.by(due, "drags 0;holds 0;bumps 10+wheel+50*(hand+more);");
        for (int w = 0; w < 4; w++) x.wheel(w, 0, 9);
        x.set(1, 0, 9);
        x.set(2, 0, 5);
        x.set(3, 0, 8);
        Made.allWide(x, 99);
        x.set(4, 0, 11);
        // 12 a tenth to the right: 11, 23, .., 95, then always beyond.
        due.same("to the right", 11 * 23, x.roll(1));
        x.set(1, 0, 1);
        due.same("to the left", 10 * 23, x.roll(1));
    }

    private static void dragsFrom0To99() {
        int[] said = {-9999, -1, 0, 1, 98, 99, 100, 9999};
        int[] drags = {0, 0, 0, 1, 98, 99, 99, 99};
        for (int i = 0; i < said.length; i++) {
            PullsToTheLeft x = Made.by(due, "drags (wheel=2)*" + said[i] + ";holds 0;bumps 0;");
            due.same("drags " + said[i], drags[i], x.at(0, 0));
        }
    }

    private static void holdsFrom0To99() {
        int[] said = {-9999, -1, 0, 1, 98, 99, 100, 9999};
        int[] holds = {0, 0, 0, 1, 98, 99, 99, 99};
        for (int i = 0; i < said.length; i++) {
            PullsToTheLeft x = Made.by(due, "drags 0;holds (wheel=1)*" + said[i] + ";bumps 0;");
            due.same("holds " + said[i], 30 * holds[i], x.roll(0));
            x = Made.by(due, "drags 0;holds " + said[i] + ";bumps 0;");
            due.same("each hand for itself", 60 * holds[i], x.roll(0));
        }
    }

    private static void bumpsFrom0To99() {
        int[] said = {-9999, -1, 0, 1, 98, 99, 100, 9999};
        int[] bumps = {0, 0, 0, 1, 98, 99, 99, 99};
        for (int i = 0; i < said.length; i++) {
            PullsToTheLeft x = Made.by(due, "drags 0;holds 0;bumps " + said[i] + ";");
            Made.allWide(x, 1);
            x.set(1, 0, 9);
            due.same("bumps " + said[i], 30 * bumps[i], x.roll(1));
            due.same("whatever it says, it bumps", (1 << 30) - 1, x.roll(2));
        }
    }

    private static void loadsOf0And80() {
        PullsToTheLeft x = Made.by(due, "drags (wheel=2)*(load+9);holds load;bumps 0;");
        due.same("load 0", 9, x.at(0, 0));
        loadOver(x, 2, 80);
        due.same("load 80", 89, x.at(0, 0));
        due.same("a hand has no load", 0, x.roll(0));
    }

    private static void handsHaveNeitherLoadNorMore() {
        PullsToTheLeft x = Made.by(due, "drags 0;holds 1+load+more;bumps 0;");
        for (int w = 0; w < 4; w++) {
            x.wheel(w, 0, 9);
            loadOver(x, w, 80);
        }
        due.same("1 of each hand", 60, x.roll(0));
    }

    private static void tenthsNamedAnywhere() {
        PullsToTheLeft x = Made.by(due, "drags tenth*(wheel=0);holds 0;bumps 0;");
        due.same("named first", 29, x.at(29, 0));
        due.same("not yet", 0, x.at(0, 0));
        x = Made.by(due, "drags 0;holds tenth;bumps 0;");
        due.same("named by holds alone", 870, x.roll(0));
        x = Made.by(due, "drags 0;holds 0;bumps tenth;");
        x.set(1, 0, 9);
        Made.allWide(x, 1);
        due.same("named by bumps alone", 435, x.roll(1));
    }

    private static void atRanges() {
        bounds.range("12: at a tenth", -1000000, 0, 29, (x, v) -> x.at(v, 0));
        bounds.range("12: aside behind a tenth", -1000000, 0, 29, (x, v) -> x.at(v, 1));
        bounds.range("12: at what", -1000000, 0, 1, (x, v) -> x.at(0, v));
        bounds.keeps("12: both are wrong", -1000000, x -> x.at(-1, 2));
        bounds.onlyAsks("12: at(29, 0)", x -> x.at(29, 0));
        bounds.onlyAsks("12: at(29, 1)", x -> x.at(29, 1));
    }

    private static void atTheFirstAndTheLast() {
        PullsToTheLeft x = Made.by(due, "drags (wheel=0)*(1+tenth);holds 0;bumps 0;");
        x.set(3, 0, 8);
        due.same("12: pull in the first", 1, x.at(0, 0));
        due.same("12: aside behind the first", -1, x.at(0, 1));
        due.same("12: pull in the last", 30, x.at(29, 0));
        due.same("12: behind the fifth", -15, x.at(4, 1));
        due.same("12: behind the last, it has bumped", -20, x.at(29, 1));
        x.set(4, 29, 99);
        due.same("12: behind the last, it has not", -50, x.at(29, 1));
    }

    private static void rollRanges() {
        bounds.range("13: roll", -1000000, 0, 4, (x, v) -> x.roll(v));
        for (int what = 0; what < 5; what++) {
            int asked = what;
            bounds.onlyAsks("13: roll(" + what + ")", x -> x.roll(asked));
        }
    }

    private static void rollOfNothing() {
        PullsToTheLeft x = new PullsToTheLeft();
        for (int what = 0; what < 5; what++) due.same("13: of a new one", 0, x.roll(what));
    }

    private static void rollOfAllThatCanBe() {
        PullsToTheLeft x = Made.by(due, "drags 99*(wheel=1);holds 99;bumps 99;");
        Made.allWide(x, 1);
        due.same("13: holding, at most", 30 * 198, x.roll(0));
        due.same("13: bumps, at most", 30 * 99, x.roll(1));
        due.same("13: in all tenths", 1073741823, x.roll(2));
        due.same("13: farthest, just wide", 1, x.roll(3));
        due.same("13: at the end", 1, x.roll(4));
        Made.allWide(x, 99);
        due.same("13: farthest, at most", 99, x.roll(3));
        x.set(4, 29, 1);
        due.same("13: behind any of them", 99, x.roll(3));
        due.same("13: at the end", 1, x.roll(4));
    }

    /** 2 a tenth to the left, in an aisle of 99. */
    private static PullsToTheLeft slowly() {
        PullsToTheLeft x = Made.by(due, "drags 16*(wheel=0);holds 0;bumps 5+tenth;");
        x.set(3, 0, 1);
        Made.allWide(x, 99);
        return x;
    }

    private static void bumpsInTheFirstTenthAlone() {
        PullsToTheLeft x = slowly();
        x.set(4, 0, 1);
        due.same("13: bit 0", 1, x.roll(2));
        due.same("13: bumps of tenth 0", 5, x.roll(1));
        due.same("13: farthest", 59, x.roll(3));
        due.same("13: at the end", -59, x.roll(4));
        x.set(4, 0, 2);
        due.same("13: it needn't", 0, x.roll(2));
        due.same("13: at the end", -60, x.roll(4));
    }

    private static void bumpsInTheLastTenthAlone() {
        PullsToTheLeft x = slowly();
        x.set(4, 29, 59);
        due.same("13: bit 29", 536870912, x.roll(2));
        due.same("13: bumps of tenth 29", 34, x.roll(1));
        due.same("13: farthest is behind it", 59, x.roll(3));
        due.same("13: at the end", -59, x.roll(4));
        x.set(4, 29, 60);
        due.same("13: it needn't", 0, x.roll(2));
        due.same("13: farthest", 60, x.roll(3));
        x.set(4, 29, 1);
        due.same("13: farthest was behind tenth 28", 58, x.roll(3));
        due.same("13: at the end", -1, x.roll(4));
    }
}
