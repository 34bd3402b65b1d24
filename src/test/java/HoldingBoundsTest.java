/** The bounds of promises 14 to 24: straight, hold, exact, put, swap, lay, quick, flutters, mend, change, turned. */
public final class HoldingBoundsTest {
    private static final Due due = new Due();
    private static final Bounds bounds = new Bounds(due);

    public static void main(String[] args) {
        asksAlone();
        // 14, 15, 16
        handsFrom0To99();
        oneHandAlone();
        farthestFrom0To99();
        holdsOrBumps();
        exactInAllTenths();
        // 17
        putRanges();
        putWhereThereIsRoom();
        putUponWhatLiesThere();
        // 18
        swapFirstAndLast();
        swapIfLess();
        // 19
        layRefused();
        layNothingAndAll();
        layInTheLastPlaces();
        layFirstNothingAnywhere();
        // 20
        quickFrom1To9();
        // 21
        fluttersFrom1To9();
        fluttersInTheFirstAndTheLastTenths();
        // 22
        mendFirstAndLast();
        mendIfLess();
        // 23
        changeRanges();
        changeFrom0To29();
        // 24
        turnedFromLeastToMost();
        due.end();
    }

    private static void twoSorts(String call, Bounds.Numbered asked) {
        bounds.range(call, -2, 0, 1, asked);
        bounds.onlyAsks(call + "(0)", x -> asked.of(x, 0));
        bounds.onlyAsks(call + "(1)", x -> asked.of(x, 1));
    }

    private static void asksAlone() {
        twoSorts("14: straight", (x, v) -> x.straight(v));
        twoSorts("15: hold", (x, v) -> x.hold(v));
        bounds.onlyAsks("16: exact()", x -> x.exact());
        twoSorts("17: put", (x, v) -> x.put(3, v));
        twoSorts("18: swap", (x, v) -> x.swap(v));
        bounds.onlyAsks("19: lay(0)", x -> x.lay(0));
        bounds.onlyAsks("19: lay(1)", x -> x.lay(1));
        bounds.onlyAsks("20: quick()", x -> x.quick());
        bounds.onlyAsks("21: flutters()", x -> x.flutters());
        twoSorts("22: mend", (x, v) -> x.mend(v));
        bounds.onlyAsks("23: change(510)", x -> x.change(510));
        bounds.onlyAsks("24: turned()", x -> x.turned());
    }

    /** The hands, and that: of straight, hold and exact. */
    private static void hands(PullsToTheLeft x, int hands, int farthest, int cost) {
        due.same("14: the hands", hands, x.straight(0));
        due.same("14: farthest", farthest, x.straight(1));
        due.same("15: the hands", hands, x.hold(0));
        due.same("15: cost", cost, x.hold(1));
        due.same("16: the hands", hands, x.exact());
    }

    private static void handsFrom0To99() {
        PullsToTheLeft x = new PullsToTheLeft();
        hands(x, 0, 0, 0);
        x.set(1, 0, 9);
        x.set(2, 0, 9);
        hands(x, 0, 0, 0);
        // All but both hands at most are pulled by 26 at least.
        x = Made.by(due, "drags 50*(wheel=0)*(hand<9);holds 9-hand;bumps 9;");
        hands(x, 99, 0, 0);
        x.set(1, 0, 9);
        x.set(2, 0, 9);
        hands(x, 99, 0, 0);
    }

    private static void oneHandAlone() {
        hands(Made.by(due, "drags 27*(wheel=1);holds hand<5;bumps 99;"), 9, 0, 30);
        hands(Made.by(due, "drags 27*(wheel=0);holds hand<5;bumps 99;"), 90, 0, 30);
        due.same("16: no multiple of 3", -1, Made.by(due, "drags 26*(wheel=0);holds 0;bumps 0;").exact());
        due.same("16: beyond the left hand", -1, Made.by(due, "drags 30*(wheel=0);holds 0;bumps 0;").exact());
        due.same("16: beyond the right hand", -1, Made.by(due, "drags 30*(wheel=1);holds 0;bumps 0;").exact());
    }

    private static void farthestFrom0To99() {
        PullsToTheLeft x = Made.by(due, "drags 99*(wheel=0);holds hand;bumps 99;");
        Made.allWide(x, 99);
        due.same("14: of like ones the first", 0, x.straight(0));
        due.same("14: farthest, at most", 99, x.straight(1));
        due.same("15: held or not, it bumps", 0, x.hold(0) % 10);
        Made.allWide(x, 1);
        due.same("14: of like ones the first", 0, x.straight(0));
        due.same("14: just wide", 1, x.straight(1));
        due.same("15: of like ones the first", 0, x.hold(0));
        due.same("15: bumps in all tenths", 30 * 99, x.hold(1));
    }

    /** 3 to the left, at 3 a tenth, bumps in 24 tenths; the left hand alone holds it. */
    private static void holdsOrBumps() {
        int[] bumps = {5, 6};
        int[] hands = {0, 10};
        for (int i = 0; i < 2; i++) {
            PullsToTheLeft x = Made.by(due, "drags 3*(wheel=0);holds 4*hand;bumps " + bumps[i] + ";");
            x.set(3, 0, 8);
            due.same("15: of like ones the first, or the cheapest", hands[i], x.hold(0));
            due.same("15: 30 times 4, or 24 times 5", 120, x.hold(1));
            due.same("14: straight all the same", 10, x.straight(0));
        }
    }

    private static void exactInAllTenths() {
        due.same("16: but in the first tenth", -1, Made.by(due, "drags 3*(wheel=0)*(0<tenth);holds 0;bumps 0;").exact());
        due.same("16: but in the last tenth", -1, Made.by(due, "drags 3*(wheel=0)*(tenth<29);holds 0;bumps 0;").exact());
        PullsToTheLeft x = Made.by(due, "drags wheel=0;holds 0;bumps 0;");
        due.same("16: 1 is not 0", -1, x.exact());
        due.same("14: though it goes nowhere", 0, x.straight(1));
        due.same("14: with none, as 1 by 8 is cut", 0, x.straight(0));
    }

    private static void putRanges() {
        bounds.range("17: put much", -2, 1, 40, (x, v) -> x.put(v, 0));
        bounds.range("17: put much, that", -2, 1, 40, (x, v) -> x.put(v, 1));
        bounds.keeps("17: both are wrong", -2, x -> x.put(0, 2));
    }

    private static void putWhereThereIsRoom() {
        for (int p = 0; p < 8; p++) {
            PullsToTheLeft x = new PullsToTheLeft();
            for (int other = 0; other < 8; other++) x.set(0, other, 40);
            for (int much : new int[] {1, 40}) {
                due.same("17: no room anywhere", -1, x.put(much, 0));
                due.same("17: no room anywhere", -1, x.put(much, 1));
            }
            x.set(0, p, 39);
            due.same("17: just 40", p, x.put(1, 0));
            due.same("17: 99 of each wheel", 0, x.put(1, 1));
            due.same("17: 41 is too much", -1, x.put(2, 0));
            due.same("17: 41 is too much", -1, x.put(2, 1));
            x.set(0, p, 1);
            due.same("17: just 40", p, x.put(39, 0));
            due.same("17: 41 is too much", -1, x.put(40, 0));
            x.set(0, p, 0);
            due.same("17: just 40", p, x.put(40, 0));
            due.same("17: in thought", 0, x.look(0, p));
        }
        PullsToTheLeft x = new PullsToTheLeft();
        due.same("17: of like ones the first", 0, x.put(40, 0));
        due.same("17: wherever it is put", 20, x.put(40, 1));
    }

    private static void putUponWhatLiesThere() {
        for (int p = 0; p < 8; p++) {
            PullsToTheLeft x = Made.by(due, "drags load;holds 0;bumps 0;");
            x.set(3, 0, 8);
            Made.allWide(x, 99);
            for (int other = 0; other < 8; other++) x.set(0, other, other == p ? 10 : 40);
            due.same("17: the only one with room", p, x.put(30, 0));
            due.same("17: 40 of each", 0, x.put(30, 1));
            due.same("17: 39 of one", 30, x.put(29, 1));
        }
        PullsToTheLeft x = loaded(2, 0, 0, 0, 0, 0, 0, 0);
        due.same("17: the first to the right, not the last place", 2, x.put(1, 0));
        due.same("17: 1 more to the left all the same", 30, x.put(1, 1));
    }

    private static PullsToTheLeft loaded(int... loads) {
        PullsToTheLeft x = new PullsToTheLeft();
        x.set(3, 0, 4);
        Made.allWide(x, 99);
        for (int p = 0; p < 8; p++) x.set(0, p, loads[p]);
        return x;
    }

    private static void swapFirstAndLast() {
        PullsToTheLeft x = loaded(13, 10, 12, 3, 10, 10, 3, 23);
        due.same("18: 2 more to the left", 60, x.roll(3));
        due.same("18: 13 and 12 alone make it even", 2, x.swap(0));
        due.same("18: farthest then", 0, x.swap(1));
        x = loaded(10, 10, 3, 3, 10, 13, 23, 12);
        due.same("18: 2 more to the left", 60, x.roll(3));
        due.same("18: 13 and 12 alone make it even", 57, x.swap(0));
        due.same("18: farthest then", 0, x.swap(1));
        x = loaded(0, 1, 0, 0, 1, 0, 0, 0);
        due.same("18: of like ones the first", 12, x.swap(0));
        due.same("18: farthest then", 0, x.swap(1));
    }

    private static void swapIfLess() {
        PullsToTheLeft x = new PullsToTheLeft();
        due.same("18: none of a new one", -1, x.swap(0));
        due.same("18: as now", 0, x.swap(1));
        for (int p = 0; p < 8; p++) x.set(0, p, 40);
        due.same("18: all alike", -1, x.swap(0));
        due.same("18: as now", 0, x.swap(1));
        x = loaded(1, 0, 0, 0, 0, 0, 0, 0);
        due.same("18: across it goes as far", -1, x.swap(0));
        due.same("18: as now", 30, x.swap(1));
    }

    private static void layRefused() {
        bounds.outside("19: lay", PullsToTheLeft.NO, 0, 1, (x, v) -> x.lay(v));
    }

    private static void layNothingAndAll() {
        PullsToTheLeft x = new PullsToTheLeft();
        due.same("19: loads of 0, too", 12345678, x.lay(0));
        due.same("19: farthest at last", 0, x.lay(1));
        for (int p = 0; p < 8; p++) x.set(0, p, 40);
        // Left, right across it, the left one full, the right one full; behind likewise.
        due.same("19: loads of 40", 13245768, x.lay(0));
        due.same("19: farthest at last", 0, x.lay(1));
    }

    private static void layInTheLastPlaces() {
        PullsToTheLeft x = Made.by(due, "drags load*(wheel=3);holds 0;bumps 0;");
        x.wheel(0, 2, 9);
        x.set(3, 0, 1);
        Made.allWide(x, 99);
        x.set(0, 0, 9);
        x.set(0, 1, 10);
        // 19 to the left: 10 against it, then 9; those of 0 then come where there is room.
        due.same("19: 7 and 8 are the first", 78123456, x.lay(0));
        due.same("19: farthest at last", 0, x.lay(1));
        x.set(0, 0, 1);
        x.set(0, 1, 1);
        due.same("19: 17 to the left at last", 60, x.lay(1));
    }

    /** Were there less than nothing, or what lies there now, 2 would be even with it at another place. */
    private static void layFirstNothingAnywhere() {
        for (int p = 0; p < 8; p++) {
            PullsToTheLeft x = Made.by(due, "drags load+9;holds 0;bumps 0;");
            Made.allWide(x, 99);
            x.set(3, 0, 4);
            x.set(0, p, 2);
            due.same("19: the only one comes first", 12345678, x.lay(0));
            due.same("19: farthest, wherever it is", 30, x.lay(1));
        }
    }

    private static void quickFrom1To9() {
        PullsToTheLeft x = new PullsToTheLeft();
        due.same("20: the greatest", 9, x.quick());
        x.set(3, 0, 1);
        due.same("20: whatever it is", 9, x.quick());
        Made.allWide(x, 99);
        x.set(2, 0, 1);
        x.set(4, 29, 90);
        due.same("20: 90 aside, just as wide", 9, x.quick());
        x.set(4, 29, 89);
        due.same("20: 90 aside at pace 8, too", 7, x.quick());
        x = Made.by(due, "drags 8*(wheel=0);holds 0;bumps 0;");
        x.set(3, 0, 9);
        Made.allWide(x, 30);
        due.same("20: the least", 1, x.quick());
        x.set(4, 29, 29);
        due.same("20: none, by the last tenth", -1, x.quick());
        due.same("20: not by the first", 9, Made.by(due, "drags 17*(wheel=0)*(tenth=0);holds 0;bumps 0;").quick());
        due.same("20: by the first", 8, Made.by(due, "drags 19*(wheel=0)*(tenth=0);holds 0;bumps 0;").quick());
    }

    private static void fluttersFrom1To9() {
        PullsToTheLeft x = new PullsToTheLeft();
        due.same("21: none of a new one", -1, x.flutters());
        x.set(3, 0, 9);
        for (int more = 0; more <= 9; more++) {
            x.wheel(1, 4, more);
            due.same("21: above more " + more, more == 9 ? -1 : more + 1, x.flutters());
        }
    }

    private static void fluttersInTheFirstAndTheLastTenths() {
        String[] drags = {
            "(wheel=0)*(tenth=0)+(wheel=1)*(tenth=1)", "(wheel=0)*(tenth=28)+(wheel=1)*(tenth=29)",
            "(wheel=1)*(tenth=28)+(wheel=0)*(tenth=29)", "(wheel=0)*(tenth=29)+(wheel=1)*(tenth=0)",
            "(wheel=0)*(tenth=27)+(wheel=1)*(tenth=29)", "(wheel=0)*(tenth=28)", "(wheel=1)*(tenth=29)",
            "(pace=9)*((wheel=0)*(tenth=28)+(wheel=1)*(tenth=29))"
        };
        int[] pace = {1, 1, -1, -1, -1, -1, -1, 9};
        for (int i = 0; i < drags.length; i++) {
            due.same("21: " + drags[i], pace[i], Made.by(due, "drags " + drags[i] + ";holds 0;bumps 0;").flutters());
        }
    }

    private static void mendFirstAndLast() {
        for (int w = 0; w < 4; w++) {
            PullsToTheLeft x = new PullsToTheLeft();
            x.wheel(w, 1, 9);
            due.same("22: the one", w, x.mend(0));
            due.same("22: cost then", 0, x.mend(1));
            due.same("22: in thought", 19, x.wheel(w, 0, 9));
            x = Made.by(due, "drags more*(wheel=" + w + ");holds 0;bumps 1;");
            x.wheel(w, 0, 9);
            due.same("22: more 0, too", w, x.mend(0));
            due.same("22: cost then", 0, x.mend(1));
            x = Made.by(due, "drags (more+1)*8*(wheel=" + w + ");holds 0;bumps 1;");
            x.wheel(w, 0, 1);
            due.same("22: just 0", w, x.mend(0));
            due.same("22: 3 a tenth bump in 24 of them", 24, x.mend(1));
        }
        PullsToTheLeft x = new PullsToTheLeft();
        for (int w = 0; w < 4; w++) x.wheel(w, 2, 9);
        x.set(3, 0, 1);
        Made.allWide(x, 99);
        // 76 to the left: 9 a tenth; 57 to the left: 7 a tenth.
        due.same("22: of like ones the first", 0, x.mend(0));
        due.same("22: from 105 on it bumps", 9 * 16, x.mend(1));
        due.same("22: now it bumps from 108 on", 9 * 19, x.roll(1));
    }

    private static void mendIfLess() {
        PullsToTheLeft x = new PullsToTheLeft();
        due.same("22: none of a new one", -1, x.mend(0));
        due.same("22: as now", 0, x.mend(1));
        x.set(2, 0, 1);
        x.wheel(3, 1, 3);
        due.same("22: it is what keeps it straight", -1, x.mend(0));
        due.same("22: as now, holding", 30, x.mend(1));
        x = new PullsToTheLeft();
        x.wheel(0, 1, 0);
        due.same("22: no less by a sticking one with more 0", -1, x.mend(0));
        x = Made.by(due, "drags 99*(wheel=0);holds 0;bumps 5;");
        x.wheel(2, 2, 9);
        due.same("22: it bumps as often", -1, x.mend(0));
        due.same("22: as now", 150, x.mend(1));
    }

    private static void changeRanges() {
        bounds.range("23: change", -2, 0, 9999, (x, v) -> x.change(v));
    }

    private static void changeFrom0To29() {
        PullsToTheLeft x = Made.by(due, "drags 0;holds 5;bumps 0;");
        due.same("23: 10 a tenth for nothing", 29, x.change(0));
        due.same("23: 9 to change", 29, x.change(9));
        due.same("23: 10 to change", 28, x.change(10));
        due.same("23: 99 to change", 20, x.change(99));
        due.same("23: 9 a tenth", 29, x.change(900));
        due.same("23: 9 a tenth, 1 to change", 28, x.change(901));
        due.same("23: 9 a tenth, 28 to change", 1, x.change(928));
        due.same("23: 9 a tenth, 29 to change", 0, x.change(929));
        due.same("23: 9 a tenth, 30 to change: not above", -1, x.change(930));
        due.same("23: 10 a tenth: not above", -1, x.change(1000));
        due.same("23: the dearest", -1, x.change(9999));
        due.same("23: it costs nothing, nor does changing", -1, new PullsToTheLeft().change(0));
        x = Made.by(due, "drags 0;holds 99*(tenth=0);bumps 0;");
        due.same("23: all in the first tenth", 0, x.change(617));
        due.same("23: not above", -1, x.change(618));
        x = Made.by(due, "drags 0;holds 99*(tenth=29);bumps 0;");
        due.same("23: all in the last tenth", 29, x.change(9998));
        due.same("23: 99 and 99 are not below", -1, x.change(9999));
    }

    private static void turnedFromLeastToMost() {
        due.same("24: of a new one", 0, new PullsToTheLeft().turned());
        for (int w = 0; w < 4; w++) {
            PullsToTheLeft x = Made.by(due, "drags load*(wheel=" + w + ");holds 0;bumps 0;");
            Made.allWide(x, 99);
            x.set(3, 0, 9);
            x.set(0, 2 * w, 40);
            x.set(0, 2 * w + 1, 40);
            due.same("24: all goes across", -99, x.turned());
            for (int p = 0; p < 8; p++) x.set(0, p, p / 2 == (w ^ 1) ? 40 : 0);
            due.same("24: all comes across", 99, x.turned());
            for (int p = 0; p < 8; p++) x.set(0, p, p / 2 == (w ^ 2) || p / 2 == (w ^ 3) ? 40 : 0);
            due.same("24: neither from behind nor from in front", 0, x.turned());
        }
    }
}
