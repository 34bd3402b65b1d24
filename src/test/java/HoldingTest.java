/** Promises 14 to 24: straight, hold, exact, put, swap, lay, quick, flutters, mend, change, turned. */
public final class HoldingTest {
    private static final Due due = new Due();

    public static void main(String[] args) {
        straightHoldExact();
        likeOnes();
        put();
        swap();
        layLightly();
        layInAWideAisle();
        quick();
        flutters();
        mend();
        change();
        turned();
        nothingChanges();
        due.end();
    }

    private static void straightHoldExact() {
        PullsToTheLeft x = new PullsToTheLeft();
        x.set(1, 0, 7);
        x.set(2, 0, 7);
        x.wheel(0, 2, 1);
        due.same("straight(0)", 10, x.straight(0));
        due.same("straight(1)", 0, x.straight(1));
        due.same("hold(0)", 10, x.hold(0));
        due.same("hold(1)", 30, x.hold(1));
        due.same("exact()", 10, x.exact());
        x.wheel(0, 2, 0);
        due.same("1 is not a multiple of 3", -1, x.exact());
        due.same("straight(0)", 0, x.straight(0));
        x.wheel(0, 2, 9);
        x.wheel(2, 2, 3);
        due.same("26 is not a multiple of 3", -1, x.exact());
        x.wheel(2, 2, 4);
        x.wheel(1, 1, 1);
        due.same("27: the left hand at most", 90, x.exact());
        x.wheel(1, 0, 0);
        x.wheel(2, 2, 5);
        due.same("30: more than the left hand can", -1, x.exact());
        x.wheel(2, 2, 9);
        // 38 to the left, 27 at most to the right: 11 times 3 by 8 is 4 a tenth.
        due.same("straight(0)", 0, x.straight(0));
        due.same("straight(1)", 20, x.straight(1));
        Made.allWide(x, 99);
        due.same("straight(0)", 0, x.straight(0));
        x.set(3, 0, 1);
        due.same("the strongest first", 80, x.straight(0));
        due.same("14 by 8 is 1 a tenth", 30, x.straight(1));
        due.same("the cheapest", 0, x.hold(0) % 10);
        due.same("BAD", -2, x.straight(2));
        due.same("BAD", -2, x.straight(-1));
        due.same("BAD", -2, x.hold(2));
        due.same("BAD", -2, x.hold(-1));
    }

    private static void likeOnes() {
        PullsToTheLeft x = new PullsToTheLeft();
        due.same("straight", 0, x.straight(0));
        due.same("hold", 0, x.hold(0));
        due.same("exact", 0, x.exact());
        x = Made.by(due, "drags 0;holds 9-hand;bumps 99;");
        due.same("held firmly it costs nothing", 99, x.hold(0));
        due.same("cost", 0, x.hold(1));
        x = Made.by(due, "drags 0;holds 99*(hand<4);bumps 99;");
        due.same("the first of them", 44, x.hold(0));
        x = Made.by(due, "drags (wheel=1)*9+(wheel=3)*9;holds 0;bumps 5;");
        due.same("18 to the right: 6 on the right hand", 6, x.exact());
        due.same("straight", 6, x.straight(0));
        x = Made.by(due, "drags hand*3*(wheel<2)+6*(wheel=3);holds 0;bumps 5;");
        due.same("by the hands alone it can't be", -1, x.exact());
        x = Made.by(due, "drags hand*2*(wheel<2)+(wheel=3)*2;holds 0;bumps 5;");
        due.same("3 * (r - l) + 2 * (l - r) - 2", 2, x.exact());
        x = Made.by(due, "drags (wheel=0)*3*(tenth=29);holds 0;bumps 5;");
        due.same("0 in all tenths but one", -1, x.exact());
    }

    private static void put() {
        PullsToTheLeft x = new PullsToTheLeft();
        x.set(3, 0, 4);
        x.set(0, 2, 1);
        due.same("against it", 0, x.put(1, 0));
        due.same("against it", 0, x.put(1, 1));
        x.set(0, 2, 0);
        x.set(0, 1, 1);
        due.same("against it", 2, x.put(1, 0));
        x.set(0, 2, 40);
        x.set(0, 1, 39);
        due.same("there is room at 1", 0, x.put(1, 0));
        due.same("0 is nearer than 1", 0, x.put(1, 1));
        x.set(0, 0, 40);
        x.set(0, 1, 0);
        x.set(0, 3, 40);
        due.same("just 40", 1, x.put(40, 0));
        due.same("just 40", 0, x.put(40, 1));
        for (int p = 0; p < 8; p++) x.set(0, p, 40);
        due.same("no room", -1, x.put(1, 0));
        due.same("no room", -1, x.put(1, 1));
        x.set(0, 5, 38);
        due.same("room for 2", 5, x.put(2, 0));
        due.same("none for 3", -1, x.put(3, 0));
        due.same("none for 3", -1, x.put(3, 1));
        due.same("much", -2, x.put(0, 0));
        due.same("much", -2, x.put(41, 0));
        due.same("what", -2, x.put(1, 2));
        due.same("what", -2, x.put(1, -1));
    }

    private static void swap() {
        PullsToTheLeft x = new PullsToTheLeft();
        x.set(3, 0, 4);
        x.set(0, 0, 1);
        x.set(0, 1, 1);
        due.same("the first of like ones", 2, x.swap(0));
        due.same("farthest then", 0, x.swap(1));
        x.set(0, 0, 0);
        due.same("none is less", -1, x.swap(0));
        due.same("as now", 20, x.swap(1));
        x.set(0, 1, 0);
        due.same("none is less", -1, x.swap(0));
        due.same("as now", 0, x.swap(1));
        x.set(0, 4, 3);
        x.set(0, 5, 2);
        x.set(0, 7, 1);
        due.same("2 from behind", 25, x.swap(0));
        due.same("farthest then", 0, x.swap(1));
        x = new PullsToTheLeft();
        x.set(3, 0, 4);
        x.wheel(0, 2, 4);
        Made.allWide(x, 99);
        x.set(0, 5, 5);
        x.set(0, 6, 3);
        // 13 to the left: less 8 by changing these, less 20 by taking 5 across, 12 more by 3.
        due.same("neighbours", 56, x.swap(0));
        due.same("farthest then", 60, x.swap(1));
        due.same("BAD", -2, x.swap(2));
        due.same("BAD", -2, x.swap(-1));
    }

    private static void layLightly() {
        PullsToTheLeft x = new PullsToTheLeft();
        x.set(3, 0, 4);
        due.same("nothing", 12345678, x.lay(0));
        x.set(0, 3, 5);
        x.set(0, 5, 5);
        due.same("against each other", 13245678, x.lay(0));
        due.same("farthest", 0, x.lay(1));
        x.wheel(0, 2, 4);
        // 9 to the left, less 10 on the right; then it is all the same where the other one comes.
        due.same("to the right first", 31245678, x.lay(0));
        due.same("farthest", 20, x.lay(1));
        x.wheel(0, 2, 9);
        x.set(3, 0, 1);
        Made.allWide(x, 99);
        // 19 to the left, less 10, less 10.
        due.same("both to the right", 34125678, x.lay(0));
        due.same("farthest", 0, x.lay(1));
        due.same("NO", PullsToTheLeft.NO, x.lay(2));
        due.same("NO", PullsToTheLeft.NO, x.lay(-1));
    }

    private static void layInAWideAisle() {
        PullsToTheLeft x = new PullsToTheLeft();
        x.set(3, 0, 4);
        Made.allWide(x, 99);
        x.set(0, 0, 3);
        x.set(0, 1, 5);
        due.same("the heaviest first", 13245678, x.lay(0));
        due.same("4 times 4 by 8, 30 times", 60, x.lay(1));
        x.set(0, 6, 2);
        due.same("then 2 to the lighter side", 13425678, x.lay(0));
        due.same("farthest", 0, x.lay(1));
        due.same("in thought", 3, x.look(0, 0));
        due.same("in thought", 2, x.look(0, 6));
    }

    private static void quick() {
        PullsToTheLeft x = new PullsToTheLeft();
        due.same("quick", 9, x.quick());
        x.wheel(0, 2, 1);
        due.same("3 times 3 by 8 is 1 a tenth", 2, x.quick());
        x.wheel(0, 2, 9);
        due.same("19 by 8 is 2 a tenth", -1, x.quick());
        Made.allWide(x, 60);
        due.same("just as wide", 1, x.quick());
        x = Made.by(due, "drags 9*(wheel=0)*(pace<6);holds 0;bumps 0;");
        due.same("only when it is quick", 9, x.quick());
        x = Made.by(due, "drags 99*(wheel=0)*(not pace=5);holds 0;bumps 0;");
        due.same("only then", 5, x.quick());
        x = Made.by(due, "drags 99*(wheel=0)*(not pace=1)*(tenth=29);holds 0;bumps 0;");
        due.same("the last tenth, too", 1, x.quick());
    }

    private static void flutters() {
        PullsToTheLeft x = new PullsToTheLeft();
        due.same("never", -1, x.flutters());
        x.wheel(2, 4, 4);
        due.same("above more", 5, x.flutters());
        x.wheel(2, 4, 9);
        due.same("never above more", -1, x.flutters());
        x.wheel(2, 4, 0);
        due.same("always above more", 1, x.flutters());
        x.set(2, 0, 2);
        due.same("6 against it is not below 0", 2, x.flutters());
        x = Made.by(due, "drags (wheel=0)*(tenth=29)+(wheel=1)*(tenth<29);holds 0;bumps 0;");
        due.same("below 0, then above", -1, x.flutters());
        x = Made.by(due, "drags (wheel=1)*(tenth=29)+(wheel=0)*(tenth<29);holds 0;bumps 0;");
        due.same("above 0, then below", 1, x.flutters());
        x = Made.by(due, "drags (wheel=1)*(tenth=29)+(wheel=0)*(tenth<28);holds 0;bumps 0;");
        due.same("not in the next one", -1, x.flutters());
        x = Made.by(due, "drags (wheel=1)*(tenth=1)+(wheel=0)*(pace=9);holds 0;bumps 0;");
        due.same("0 in the next one", -1, x.flutters());
        x = Made.by(due, "drags 2*(wheel=1)*(tenth=1)+(wheel=0)*(pace=9);holds 0;bumps 0;");
        due.same("the greatest pace", 9, x.flutters());
    }

    private static void mend() {
        PullsToTheLeft x = new PullsToTheLeft();
        due.same("none", -1, x.mend(0));
        due.same("as now", 0, x.mend(1));
        x.wheel(1, 1, 3);
        due.same("the one", 1, x.mend(0));
        due.same("cost then", 0, x.mend(1));
        x.wheel(1, 0, 0);
        x.wheel(0, 2, 1);
        x.wheel(2, 2, 1);
        due.same("the first of like ones", 0, x.mend(0));
        due.same("cost then", 90, x.mend(1));
        x.wheel(1, 1, 6);
        due.same("one against the others", -1, x.mend(0));
        due.same("as now", 0, x.mend(1));
        x.set(1, 0, 1);
        x.set(2, 0, 1);
        due.same("holding, too", 60, x.mend(1));
        x = Made.by(due, "drags more*8*(wheel=3);holds 0;bumps 5;");
        x.wheel(3, 0, 3);
        due.same("more becomes 0, too", 3, x.mend(0));
        due.same("more becomes 0, too", 0, x.mend(1));
        due.same("BAD", -2, x.mend(2));
        due.same("BAD", -2, x.mend(-1));
    }

    private static void change() {
        PullsToTheLeft x = new PullsToTheLeft();
        due.same("it costs nothing", -1, x.change(0));
        x.set(2, 0, 1);
        // A tenth costs 1, from tenth 20 on 10.
        due.same("for nothing", 29, x.change(0));
        due.same("9 a tenth, 5 to change", 24, x.change(905));
        due.same("9 a tenth, 9 to change", 20, x.change(909));
        due.same("9 a tenth, 10 to change", -1, x.change(910));
        due.same("10 a tenth", -1, x.change(1000));
        due.same("9 to change", 29, x.change(9));
        due.same("10 to change", 28, x.change(10));
        due.same("99 to change", 20, x.change(99));
        due.same("dearest", -1, x.change(9999));
        due.same("BAD", -2, x.change(-1));
        due.same("BAD", -2, x.change(10000));
        x = Made.by(due, "drags 0;holds 60*(tenth=0);bumps 0;");
        due.same("the first tenth", 0, x.change(99));
        x = Made.by(due, "drags 0;holds 0;bumps 99*(tenth=20);");
        x.set(2, 0, 1);
        due.same("a bump", 20, x.change(98));
        due.same("no more than that", -1, x.change(99));
    }

    private static void turned() {
        PullsToTheLeft x = new PullsToTheLeft();
        x.set(3, 0, 4);
        x.wheel(0, 2, 0);
        x.set(0, 0, 1);
        due.same("better", -20, x.turned());
        x.set(0, 0, 0);
        x.set(0, 3, 1);
        due.same("worse", 20, x.turned());
        x.set(0, 3, 0);
        due.same("alike", 0, x.turned());
        x.set(0, 7, 1);
        due.same("behind", 20, x.turned());
        x.set(0, 7, 0);
        x.set(0, 4, 1);
        due.same("behind", -20, x.turned());
        x.set(0, 2, 1);
        due.same("crosswise", 0, x.turned());
        x = Made.by(due, "drags load*(wheel=1);holds 0;bumps 0;");
        x.set(3, 0, 8);
        x.set(0, 0, 2);
        x.set(0, 4, 9);
        Made.allWide(x, 70);
        due.same("front with front", 60, x.turned());
    }

    private static void nothingChanges() {
        PullsToTheLeft x = new PullsToTheLeft();
        for (int p = 0; p < 8; p++) x.set(0, p, 5 * p);
        for (int w = 0; w < 4; w++) x.wheel(w, 1 + w, 9 - w);
        x.set(1, 0, 4);
        x.set(2, 0, 5);
        for (int what = 0; what < 2; what++) {
            x.straight(what);
            x.hold(what);
            x.put(1, what);
            x.swap(what);
            x.lay(what);
            x.mend(what);
        }
        x.exact();
        x.quick();
        x.flutters();
        x.change(500);
        x.turned();
        for (int p = 0; p < 8; p++) due.same("load", 5 * p, x.look(0, p));
        for (int w = 0; w < 4; w++) due.same("kind", 1 + w, x.told(w, 0));
        for (int w = 0; w < 4; w++) due.same("more", 9 - w, x.told(w, 1));
        due.same("left", 4, x.look(1, 0));
        due.same("right", 5, x.look(2, 0));
        due.same("pace", 3, x.look(3, 0));
    }
}
