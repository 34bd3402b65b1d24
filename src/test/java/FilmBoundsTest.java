/** The bounds of promises 25 to 30: judge, kinds, which, held, laws, film. */
public final class FilmBoundsTest {
    private static final Due due = new Due();
    private static final Bounds bounds = new Bounds(due);

    public static void main(String[] args) {
        // 25 to 29 alike
        sheetsRefused("25: judge", (x, s) -> x.judge(s));
        sheetsRefused("26: kinds", (x, s) -> x.kinds(s, 3, 0));
        sheetsRefused("26: kinds, though the wheel is none", (x, s) -> x.kinds(s, 4, 0));
        sheetsRefused("26: kinds, though the sort is none", (x, s) -> x.kinds(s, 0, 2));
        sheetsRefused("27: which", (x, s) -> x.which(s));
        sheetsRefused("28: held", (x, s) -> x.held(s, 0));
        sheetsRefused("28: held, though what is none", (x, s) -> x.held(s, -1));
        sheetsRefused("29: laws", (x, s) -> x.laws(s));
        asksAlone();
        nothingTold();
        nothingGoesSo();
        // 25
        judgesFromTheFirstToTheLast();
        // 26
        kindsRefused();
        kindsLeastAndMost();
        moreLeastAndMost();
        // 27
        whichOneAlone();
        whichByLiftedOnes();
        whichByMoreUpTo9();
        // 28
        heldRefused();
        heldFromNoneToAll();
        // 29
        lawsFirstAndLast();
        // 30
        filmRanges();
        filmOfNoneToThirty();
        filmOfAnySheet();
        due.end();
    }

    /** Of what has something of everything, sheet 3 is missing and sheet 2 tells 40. */
    private static void sheetsRefused(String call, Bounds.Numbered asked) {
        bounds.range(call, -2, 0, 3, asked);
        bounds.keeps(call + " of a missing sheet", -11, x -> asked.of(x, 3));
        bounds.keeps(call + " of 40", -2, x -> asked.of(x, 2));
        for (int sort = 0; sort < 3; sort++) {
            int kept = sort;
            new Bounds(due, y -> y.sheet(3, kept, 31)).keeps(call + " of 31", -2, y -> asked.of(y, 3));
            PullsToTheLeft x = Whole.rich();
            x.sheet(3, kept, 30);
            due.other(call + " of 30", -2, asked.of(x, 3));
        }
    }

    private static void asksAlone() {
        for (int s = 0; s < 2; s++) {
            int film = s;
            bounds.onlyAsks("25: judge(" + s + ")", x -> x.judge(film));
            bounds.onlyAsks("27: which(" + s + ")", x -> x.which(film));
            bounds.onlyAsks("29: laws(" + s + ")", x -> x.laws(film));
            for (int what = 0; what < 2; what++) {
                int sort = what;
                bounds.onlyAsks("26: kinds(" + s + ", 2, " + sort + ")", x -> x.kinds(film, 2, sort));
                bounds.onlyAsks("28: held(" + s + ", " + sort + ")", x -> x.held(film, sort));
            }
        }
    }

    private static void nothingTold() {
        for (int sort = 0; sort < 3; sort++) {
            PullsToTheLeft x = Whole.rich();
            x.sheet(3, sort, 0);
            due.same("25: none", -1, x.judge(3));
            for (int w = 0; w < 4; w++) {
                due.same("26: all kinds", 63, x.kinds(3, w, 0));
                due.same("26: any more", 1023, x.kinds(3, w, 1));
            }
            due.same("27: any wheel", 15, x.which(3));
            due.same("28: any hands", 100, x.held(3, 0));
            due.same("28: the first hands", 0, x.held(3, 1));
            due.same("29: both texts", 3, x.laws(3));
        }
    }

    private static void nothingGoesSo() {
        for (int beyond : new int[] {-100, 100, Integer.MIN_VALUE, Integer.MAX_VALUE}) {
            PullsToTheLeft x = Whole.rich();
            x.sheet(3, 2, 30);
            x.cell(3, 0, beyond);
            due.same("25: the first", 0, x.judge(3));
            for (int w = 0; w < 4; w++) {
                due.same("26: no kind", 0, x.kinds(3, w, 0));
                due.same("26: no more", 0, x.kinds(3, w, 1));
            }
            due.same("27: no wheel", 0, x.which(3));
            due.same("28: no hands", 0, x.held(3, 0));
            due.same("28: there are none", -1, x.held(3, 1));
            due.same("29: no text", 0, x.laws(3));
        }
    }

    private static void judgesFromTheFirstToTheLast() {
        PullsToTheLeft x = new PullsToTheLeft();
        x.set(1, 0, 1);
        x.film(0, 30);
        due.same("25: none of 30", -1, x.judge(0));
        for (int t = 29; t >= 0; t--) {
            x.cell(0, t, 77);
            due.same("25: the first of those from there on", t, x.judge(0));
        }
        for (int n = 0; n <= 30; n++) {
            x.film(0, n);
            due.same("25: no more is told", -1, x.judge(0));
        }
        x.film(0, 30);
        x.set(4, 29, 1);
        due.same("25: only the last tenth is narrower", 29, x.judge(0));
        x.set(4, 0, 1);
        due.same("25: just as wide as the first needs", 29, x.judge(0));
        x.set(1, 0, 0);
        due.same("25: straight on", 0, x.judge(0));
    }

    private static void kindsRefused() {
        bounds.range("26: kinds of a wheel", -5, 0, 3, (x, v) -> x.kinds(0, v, 0));
        bounds.range("26: more of a wheel", -5, 0, 3, (x, v) -> x.kinds(0, v, 1));
        bounds.range("26: kinds, sort", -7, 0, 1, (x, v) -> x.kinds(0, 3, v));
        bounds.keeps("26: -5 ahead of -7", -5, x -> x.kinds(0, 4, 2));
        bounds.keeps("26: -5 ahead of -7", -5, x -> x.kinds(1, -1, -1));
    }

    private static void kindsLeastAndMost() {
        PullsToTheLeft x = new PullsToTheLeft();
        x.set(3, 0, 9);
        x.wheel(0, 0, 1);
        x.set(0, 0, 1);
        // 2 to the left goes 2; 4 and 5 go as far, 54 bumps, and lifted it goes 2 to the right.
        x.film(0, 1);
        due.same("26: a plain one alone", 1, x.kinds(0, 0, 0));
        x.wheel(0, 5, 1);
        x.set(0, 0, 3);
        x.film(0, 1);
        due.same("26: a lifted one alone", 32, x.kinds(0, 0, 0));
    }

    private static void moreLeastAndMost() {
        for (int w = 0; w < 4; w++) {
            PullsToTheLeft x = new PullsToTheLeft();
            x.set(3, 0, 8);
            x.wheel(w, 2, 0);
            x.film(0, 1);
            x.wheel(w, 2, 5);
            due.same("26: more 0 alone", 1, x.kinds(0, w, 1));
            x.wheel(w, 2, 9);
            x.film(0, 1);
            x.wheel(w, 2, 5);
            due.same("26: more 9 alone", 512, x.kinds(0, w, 1));
        }
    }

    private static void whichOneAlone() {
        for (int w = 0; w < 4; w++) {
            PullsToTheLeft x = Made.by(due, "drags more*10*(wheel=" + w + ");holds 0;bumps 0;");
            x.wheel(w, 0, 4);
            x.film(0, 1);
            for (int other = 0; other < 4; other++) x.wheel(other, 5, 9);
            due.same("27: wheel " + w + " alone", 1 << w, x.which(0));
        }
        PullsToTheLeft x = new PullsToTheLeft();
        x.set(3, 0, 8);
        x.wheel(1, 2, 9);
        x.film(0, 1);
        due.same("27: the greatest more of turning ones", 15, x.which(0));
        x.wheel(1, 2, 0);
        x.film(0, 1);
        due.same("27: the least more of turning ones", 15, x.which(0));
        x.wheel(1, 1, 1);
        x.film(0, 1);
        due.same("27: 1 to the right, but none turns so", 10, x.which(0));
        Made.allWide(x, 99);
        x.wheel(0, 2, 9);
        x.wheel(1, 2, 9);
        x.film(0, 1);
        due.same("27: two wish 38, which none does alone", 0, x.which(0));
        x.wheel(0, 2, 1);
        x.wheel(1, 2, 1);
        x.film(0, 1);
        due.same("27: two wish 6, which any may: fluttering", 15, x.which(0));
    }

    /** Without 50 of one of two: no other kind, on any wheel, pulls by 50. */
    private static void whichByLiftedOnes() {
        for (int w = 0; w < 4; w++) {
            PullsToTheLeft x = Made.by(due, "drags 50*(wheel=" + w + " or wheel=" + (w ^ 1) + ");holds 0;bumps 0;");
            Made.allWide(x, 99);
            x.set(3, 0, 8);
            x.wheel(w, 5, 9);
            x.film(0, 1);
            x.wheel(w, 0, 0);
            due.same("27: wheel " + w + " alone, lifted", 1 << w, x.which(0));
        }
    }

    private static void whichByMoreUpTo9() {
        PullsToTheLeft x = new PullsToTheLeft();
        Made.allWide(x, 99);
        x.set(3, 0, 8);
        x.sheet(0, 2, 1);
        x.cell(0, 0, 9);
        due.same("27: 9 to the right: sticking by 9", 10, x.which(0));
        x.cell(0, 0, 10);
        due.same("27: 10 to the right: none", 0, x.which(0));
        x.cell(0, 0, -19);
        due.same("27: 19 to the left: turning by 9", 15, x.which(0));
        x.cell(0, 0, -21);
        due.same("27: 21 to the left: none", 0, x.which(0));
    }

    private static void heldRefused() {
        bounds.range("28: held what", -7, 0, 1, (x, v) -> x.held(0, v));
        bounds.range("28: held what, of bytes", -7, 0, 1, (x, v) -> x.held(1, v));
    }

    private static void heldFromNoneToAll() {
        PullsToTheLeft x = Made.by(due, "drags 50*(wheel=0)*(hand<9);holds 0;bumps 0;");
        x.sheet(0, 2, 30);
        due.same("28: straight on: one", 1, x.held(0, 0));
        due.same("28: both hands at most", 99, x.held(0, 1));
        x = new PullsToTheLeft();
        x.film(0, 30);
        due.same("28: straight on: both alike", 10, x.held(0, 0));
        due.same("28: the first", 0, x.held(0, 1));
        x.set(1, 0, 9);
        x.film(0, 30);
        due.same("28: 9 and 0 go farther than 8 and 0", 1, x.held(0, 0));
        due.same("28: 9 and 0", 90, x.held(0, 1));
        Made.allWide(x, 1);
        x.film(0, 30);
        due.same("28: in so narrow an aisle all to the right", 45, x.held(0, 0));
        due.same("28: 1 and 0", 10, x.held(0, 1));
        x = Made.by(due, "drags 0;holds 0;bumps 0;");
        x.wheel(0, 2, 9);
        x.wheel(1, 2, 9);
        x.wheel(2, 2, 9);
        x.set(3, 0, 9);
        x.film(0, 30);
        due.same("28: it bumps however it is held", 100, x.held(0, 0));
        due.same("28: the first", 0, x.held(0, 1));
    }

    private static void lawsFirstAndLast() {
        PullsToTheLeft x = new PullsToTheLeft();
        x.set(3, 0, 8);
        x.set(0, 0, 1);
        x.film(0, 1);
        due.same("29: text 0 alone", 1, x.laws(0));
        // Text 0 pulls by 2.
        for (int t = 1; t <= 5; t++) Due.read(x, "drags " + (4 * t) + "*(wheel=1);holds 0;bumps 0;");
        due.same("29: text 0 alone", 1, x.laws(0));
        for (int t = 1; t <= 5; t++) {
            x.force(t);
            x.film(0, 1);
            x.force(0);
            due.same("29: text " + t + " alone", 1 << t, x.laws(0));
        }
        x.film(0, 0);
        due.same("29: all six", 63, x.laws(0));
        x.sheet(0, 2, 1);
        due.same("29: none", 0, x.laws(0));
    }

    private static void filmRanges() {
        bounds.range("30: film s", -2, 0, 3, (x, v) -> x.film(v, 5));
        bounds.range("30: film n", -2, 0, 30, (x, v) -> x.film(0, v));
        bounds.range("30: film n of a missing sheet", -2, 0, 30, (x, v) -> x.film(3, v));
        bounds.range("30: film n of 40 shorts", -2, 0, 30, (x, v) -> x.film(2, v));
        bounds.keeps("30: both are wrong", -2, x -> x.film(4, 31));
    }

    private static void filmOfNoneToThirty() {
        PullsToTheLeft x = new PullsToTheLeft();
        x.set(2, 0, 1);
        for (int n = 0; n <= 30; n++) {
            due.same("30: n", n, x.film(0, n));
            due.same("30: n of these", n, Whole.size(x, 0));
            due.same("30: as it goes", -1, x.judge(0));
        }
        x.sheet(1, 2, 30);
        due.same("30: the first of them", 1, x.copy(0, 0, 1, 0, 1));
        due.same("30: 1 aside", 1, x.judge(1));
        due.same("30: the last of them", 1, x.copy(0, 29, 1, 0, 1));
        due.same("30: 20 aside", 0, x.judge(1));
    }

    private static void filmOfAnySheet() {
        for (int s = 0; s < 4; s++) {
            for (int sort = -1; sort < 3; sort++) {
                PullsToTheLeft x = new PullsToTheLeft();
                x.set(1, 0, 3);
                x.sheet(s, sort, 40);
                due.same("30: truly becomes", 7, x.film(s, 7));
                due.same("30: ints", 2, Whole.sort(x, s));
                due.same("30: 7 of them", 7, Whole.size(x, s));
                due.same("30: of these", -1, x.judge(s));
                due.same("30: none of them", 0, x.film(s, 0));
                due.same("30: ints, though there are none", 2, Whole.sort(x, s));
                due.same("30: none of them", 0, Whole.size(x, s));
                for (int other = 0; other < 4; other++) {
                    if (other != s) due.same("30: no other one", -11, x.judge(other));
                }
            }
        }
    }
}
