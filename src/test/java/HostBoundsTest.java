/** The bounds of promises 43 to 47: sheet, cell, copy, loadsBy, taken. */
public final class HostBoundsTest {
    private static final int LEAST = Integer.MIN_VALUE, MOST = Integer.MAX_VALUE;
    private static final int[] WRONG_SHEETS = {LEAST, -1, 4, MOST};
    private static final Due due = new Due();
    private static final Bounds bounds = new Bounds(due);

    public static void main(String[] args) {
        // 43
        sheetRanges();
        sheetFirstTold();
        sheetFromNoneTo40();
        sheetMissingAgain();
        sheetAll0();
        // 44
        cellRanges();
        cellFirstTold();
        cellLowestBits();
        // 45
        copyRanges();
        copyFirstTold();
        copyUpToTheEdges();
        copyNone();
        copyAsTheyWere();
        // 46
        loadsByRanges();
        loadsByFirstTold();
        loadsByLeavesOut();
        loadsByUpToTheEnd();
        loadsByWhatStoodAhead();
        // 47
        takenRanges();
        takenFirstTold();
        takenLoads();
        takenWheels();
        due.end();
    }

    private static void sheetRanges() {
        bounds.range("43: sheet", -2, 0, 3, (x, v) -> x.sheet(v, 1, 5));
        bounds.range("43: sheet, sort", -2, -1, 2, (x, v) -> x.sheet(2, v, 5));
        for (int sort = 0; sort < 3; sort++) {
            int of = sort;
            for (int n : new int[] {41, 42, MOST}) bounds.keeps("43: above 40", -2, x -> x.sheet(2, of, n));
            for (int n : new int[] {LEAST, -2, -1}) bounds.keeps("43: below 0", -14, x -> x.sheet(2, of, n));
        }
        bounds.any("43: missing, n does not matter", 1, (x, v) -> x.sheet(2, -1, v));
        due.same("43: missing, n does not matter", 1, new PullsToTheLeft().sheet(0, -1, 41));
    }

    private static void sheetFirstTold() {
        for (int s : WRONG_SHEETS) {
            bounds.keeps("43: sheet ahead of n", -2, x -> x.sheet(s, 0, -1));
            bounds.keeps("43: sheet, though it would be missing", -2, x -> x.sheet(s, -1, 0));
        }
        for (int sort : new int[] {LEAST, -2, 3, MOST}) {
            bounds.keeps("43: sort ahead of n", -2, x -> x.sheet(0, sort, -1));
            bounds.keeps("43: sort, n is as told", -2, x -> x.sheet(0, sort, 5));
        }
    }

    private static void sheetFromNoneTo40() {
        for (int s = 0; s < 4; s++) {
            for (int sort = 0; sort < 3; sort++) {
                PullsToTheLeft x = new PullsToTheLeft();
                for (int n = 0; n <= 40; n++) {
                    due.same("43: a row of " + n, 1, x.sheet(s, sort, n));
                    due.same("43: the one behind the last", -12, x.cell(s, n, 0));
                    if (n > 0) due.same("43: the last", 1, x.cell(s, n - 1, 0));
                }
                due.same("43: of that sort", sort, Whole.sort(x, s));
                due.same("43: of 40", 40, Whole.size(x, s));
                for (int other = 0; other < 4; other++) {
                    if (other != s) due.same("43: no other one", -11, x.cell(other, 0, 0));
                }
            }
        }
    }

    private static void sheetMissingAgain() {
        for (int sort = -1; sort < 3; sort++) {
            PullsToTheLeft x = new PullsToTheLeft();
            x.sheet(1, sort, 40);
            due.same("43: missing", 1, x.sheet(1, -1, 40));
            due.same("43: nothing there", -11, x.cell(1, 0, 0));
            due.same("43: nothing there", -11, x.judge(1));
            due.same("43: nothing there", -11, x.copy(1, 0, 1, 0, 0));
            due.same("43: nothing there", -11, x.loadsBy(1, 0, 0, 0));
        }
    }

    private static void sheetAll0() {
        for (int sort = 0; sort < 3; sort++) {
            PullsToTheLeft x = new PullsToTheLeft();
            x.sheet(0, sort, 30);
            for (int i = 0; i < 30; i++) x.cell(0, i, i + 1);
            due.same("43: otherwise than straight on", 0, x.judge(0));
            due.same("43: anew", 1, x.sheet(0, sort, 30));
            due.same("43: all 0", -1, x.judge(0));
        }
    }

    private static void cellRanges() {
        bounds.range("44: cell of a sheet", -2, 0, 3, (x, v) -> x.cell(v, 0, 1));
        bounds.range("44: cell of 30 ints", -12, 0, 29, (x, v) -> x.cell(0, v, 1));
        bounds.range("44: cell of 5 bytes", -12, 0, 4, (x, v) -> x.cell(1, v, 1));
        bounds.range("44: cell of 40 shorts", -12, 0, 39, (x, v) -> x.cell(2, v, 1));
        for (int i : new int[] {LEAST, -1, 0, 39, MOST}) bounds.keeps("44: nothing there", -11, x -> x.cell(3, i, 1));
        for (int sort = 0; sort < 3; sort++) {
            int of = sort;
            Bounds none = new Bounds(due, x -> x.sheet(3, of, 0));
            for (int i : new int[] {LEAST, -1, 0, MOST}) none.keeps("44: none in it", -12, x -> x.cell(3, i, 1));
            bounds.any("44: any number", 1, (x, v) -> x.cell(of, 4, v));
        }
    }

    private static void cellFirstTold() {
        for (int s : WRONG_SHEETS) {
            bounds.keeps("44: BAD ahead of -11 and -12", -2, x -> x.cell(s, -1, 0));
        }
        bounds.keeps("44: -11 ahead of -12", -11, x -> x.cell(3, 40, 0));
    }

    /** What v becomes in a sheet of bytes, of shorts, of ints. */
    private static final int[][] BITS = {
        {0, 0, 0, 0}, {-1, -1, -1, -1}, {99, 99, 99, 99}, {-99, -99, -99, -99},
        {157, -99, 157, 157}, {-157, 99, -157, -157}, {255, -1, 255, 255}, {256, 0, 256, 256}, {-256, 0, -256, -256},
        {65535, -1, -1, 65535}, {65536, 0, 0, 65536}, {65437, -99, -99, 65437}, {-65437, 99, 99, -65437},
        {LEAST, 0, 0, LEAST}, {MOST, -1, -1, MOST}, {LEAST + 99, 99, 99, LEAST + 99}, {MOST - 98, -99, -99, MOST - 98}
    };

    private static void cellLowestBits() {
        for (int[] row : BITS) {
            for (int sort = 0; sort < 3; sort++) {
                int becomes = row[1 + sort];
                PullsToTheLeft x = goingBy(becomes);
                x.sheet(0, sort, 1);
                due.same("44: cell", 1, x.cell(0, 0, row[0]));
                int want = becomes >= -99 && becomes <= 99 ? -1 : 0;
                due.same("44: " + row[0] + " becomes " + becomes + ", sort " + sort, want, x.judge(0));
            }
        }
    }

    /** So far it goes in tenth 0, if it can go so far at all; else 99. */
    private static PullsToTheLeft goingBy(int aside) {
        PullsToTheLeft x = new PullsToTheLeft();
        int far = aside >= -99 && aside <= 99 ? aside : 99;
        Due.read(x, "drags " + Math.abs(far) + "*(wheel=" + (far < 0 ? 0 : 1) + ");holds 0;bumps 0;");
        x.force(1);
        x.set(3, 0, 8);
        x.set(4, 0, 99);
        due.same("goes", far, x.at(0, 1));
        return x;
    }

    private static void copyRanges() {
        bounds.range("45: copy from a sheet", -2, 0, 3, (x, v) -> x.copy(v, 0, 0, 0, 1));
        bounds.range("45: copy to a sheet", -2, 0, 3, (x, v) -> x.copy(0, 0, v, 0, 1));
        bounds.range("45: copy from a place on", -12, 0, 28, (x, v) -> x.copy(0, v, 0, 0, 2));
        bounds.range("45: copy to a place", -12, 0, 28, (x, v) -> x.copy(0, 0, 0, v, 2));
        bounds.range("45: copy n", -12, 0, 30, (x, v) -> x.copy(0, 0, 0, 0, v));
        bounds.range("45: copy n, from 10 on", -12, 0, 20, (x, v) -> x.copy(0, 10, 0, 0, v));
        bounds.range("45: copy n, to 11", -12, 0, 19, (x, v) -> x.copy(0, 0, 0, 11, v));
        Bounds ints = new Bounds(due, x -> x.sheet(3, 2, 4));
        ints.range("45: copy n to a lesser one", -12, 0, 4, (x, v) -> x.copy(0, 0, 3, 0, v));
        ints.range("45: copy n from a lesser one", -12, 0, 4, (x, v) -> x.copy(3, 0, 0, 0, v));
    }

    private static void copyFirstTold() {
        for (int s : WRONG_SHEETS) {
            bounds.keeps("45: BAD ahead of -11", -2, x -> x.copy(s, 0, 3, 0, 1));
            bounds.keeps("45: BAD ahead of -11", -2, x -> x.copy(3, 0, s, 0, 1));
            bounds.keeps("45: BAD ahead of -12", -2, x -> x.copy(s, -1, 0, -1, -1));
            bounds.keeps("45: BAD ahead of -12", -2, x -> x.copy(0, -1, s, -1, -1));
        }
        bounds.keeps("45: both missing", -11, x -> x.copy(3, 0, 3, 0, 0));
        bounds.keeps("45: -11 ahead of -13 and -12, from", -11, x -> x.copy(3, -1, 1, -1, -1));
        bounds.keeps("45: -11 ahead of -13 and -12, to", -11, x -> x.copy(1, -1, 3, -1, -1));
        for (int s = 0; s < 3; s++) {
            for (int o = 0; o < 3; o++) {
                int from = s;
                int to = o;
                if (s == o) continue;
                bounds.keeps("45: -13", -13, x -> x.copy(from, 0, to, 0, 1));
                bounds.keeps("45: -13, though none is copied", -13, x -> x.copy(from, 0, to, 0, 0));
                bounds.keeps("45: -13 ahead of -12", -13, x -> x.copy(from, -1, to, 41, -1));
            }
        }
    }

    private static void copyUpToTheEdges() {
        for (int sort = 0; sort < 3; sort++) {
            int of = sort;
            Bounds two = new Bounds(due, x -> {
                x.sheet(0, of, 40);
                x.sheet(3, of, 40);
            });
            PullsToTheLeft x = Whole.rich();
            x.sheet(0, sort, 40);
            x.sheet(3, sort, 40);
            due.same("45: all 40", 40, x.copy(0, 0, 3, 0, 40));
            due.same("45: the last", 1, x.copy(0, 39, 3, 39, 1));
            due.same("45: the last to the first", 1, x.copy(0, 39, 3, 0, 1));
            two.keeps("45: 41", -12, y -> y.copy(0, 0, 3, 0, 41));
            two.keeps("45: from 1 on", -12, y -> y.copy(0, 1, 3, 0, 40));
            two.keeps("45: to 1", -12, y -> y.copy(0, 0, 3, 1, 40));
            two.keeps("45: behind the last", -12, y -> y.copy(0, 40, 3, 0, 1));
            two.keeps("45: to behind the last", -12, y -> y.copy(0, 0, 3, 40, 1));
            two.keeps("45: a sum that wraps, from", -12, y -> y.copy(0, MOST, 3, 0, 1));
            two.keeps("45: a sum that wraps, to", -12, y -> y.copy(0, 0, 3, MOST, 1));
            two.keeps("45: a sum that wraps, n", -12, y -> y.copy(0, 1, 3, 1, MOST));
            two.keeps("45: all at most", -12, y -> y.copy(0, MOST, 3, MOST, MOST));
            two.keeps("45: all at least", -12, y -> y.copy(0, LEAST, 3, LEAST, LEAST));
            two.keeps("45: the least and the most", -12, y -> y.copy(0, LEAST, 3, 0, MOST));
        }
    }

    private static void copyNone() {
        bounds.keeps("45: none, from behind the last", 0, x -> x.copy(0, 30, 0, 30, 0));
        bounds.keeps("45: none, from the first", 0, x -> x.copy(0, 0, 0, 5, 0));
        bounds.keeps("45: none, from farther", -12, x -> x.copy(0, 31, 0, 0, 0));
        bounds.keeps("45: none, to farther", -12, x -> x.copy(0, 0, 0, 31, 0));
        bounds.keeps("45: none, from below", -12, x -> x.copy(0, -1, 0, 0, 0));
        bounds.keeps("45: none, to below", -12, x -> x.copy(0, 0, 0, -1, 0));
        Bounds none = new Bounds(due, x -> x.sheet(3, 2, 0));
        none.keeps("45: none of none", 0, x -> x.copy(3, 0, 3, 0, 0));
        none.keeps("45: none of some", 0, x -> x.copy(0, 0, 3, 0, 0));
        none.keeps("45: one of none", -12, x -> x.copy(3, 0, 0, 0, 1));
        none.keeps("45: one to none", -12, x -> x.copy(0, 0, 3, 0, 1));
    }

    /** A sheet of places and loads, read by loads: place p has load 10 + p. */
    private static PullsToTheLeft paired(int sort) {
        PullsToTheLeft x = new PullsToTheLeft();
        x.sheet(0, sort, 16);
        for (int p = 0; p < 8; p++) {
            x.cell(0, 2 * p, p);
            x.cell(0, 2 * p + 1, 10 + p);
        }
        return x;
    }

    private static void loadsAre(PullsToTheLeft x, int... loads) {
        for (int p = 0; p < 8; p++) due.same("load of place " + p, loads[p], x.look(0, p));
    }

    private static void copyAsTheyWere() {
        for (int sort = 0; sort < 3; sort++) {
            PullsToTheLeft x = paired(sort);
            due.same("45: onwards", 14, x.copy(0, 0, 0, 2, 14));
            due.same("45: place 0 twice, 7 none", 8, x.loadsBy(0, sort, 0, 8));
            loadsAre(x, 10, 11, 12, 13, 14, 15, 16, 0);
            x = paired(sort);
            due.same("45: back", 14, x.copy(0, 2, 0, 0, 14));
            due.same("45: place 7 twice, 0 none", 8, x.loadsBy(0, sort, 0, 8));
            loadsAre(x, 0, 11, 12, 13, 14, 15, 16, 17);
            x = paired(sort);
            x.sheet(3, sort, 16);
            due.same("45: to another one", 2, x.copy(0, 4, 3, 14, 2));
            due.same("45: the others are 0", 8, x.loadsBy(3, sort, 0, 8));
            loadsAre(x, 0, 0, 12, 0, 0, 0, 0, 0);
            due.same("45: the first one as it was", 8, x.loadsBy(0, sort, 0, 8));
            loadsAre(x, 10, 11, 12, 13, 14, 15, 16, 17);
            due.same("45: onto itself", 16, x.copy(0, 0, 0, 0, 16));
            due.same("45: as it was", 8, x.loadsBy(0, sort, 0, 8));
            loadsAre(x, 10, 11, 12, 13, 14, 15, 16, 17);
        }
    }

    private static void loadsByRanges() {
        bounds.range("46: loadsBy a sheet", -2, 0, 3, (x, v) -> x.loadsBy(v, 2, 0, 1));
        bounds.range("46: loadsBy, sort", -2, 0, 2, (x, v) -> x.loadsBy(0, v, 0, 1));
        bounds.range("46: loadsBy, n", -2, 0, 20, (x, v) -> x.loadsBy(2, 1, 0, v));
        bounds.range("46: loadsBy 40 shorts, at", -12, 0, 38, (x, v) -> x.loadsBy(2, 1, v, 1));
        bounds.range("46: loadsBy 5 bytes, at", -12, 0, 3, (x, v) -> x.loadsBy(1, 0, v, 1));
    }

    private static void loadsByFirstTold() {
        for (int s : WRONG_SHEETS) bounds.keeps("46: BAD ahead of -11", -2, x -> x.loadsBy(s, 0, -1, 1));
        for (int sort : new int[] {LEAST, -1, 3, MOST}) {
            bounds.keeps("46: sort ahead of -11", -2, x -> x.loadsBy(3, sort, -1, 1));
            bounds.keeps("46: sort ahead of -12", -2, x -> x.loadsBy(0, sort, -1, 1));
        }
        for (int n : new int[] {LEAST, -1, 21, MOST}) {
            bounds.keeps("46: n ahead of -11", -2, x -> x.loadsBy(3, 0, -1, n));
            bounds.keeps("46: n ahead of -13", -2, x -> x.loadsBy(0, 0, 0, n));
            bounds.keeps("46: n ahead of -12", -2, x -> x.loadsBy(0, 2, -1, n));
        }
        bounds.keeps("46: -11 ahead of -13 and -12", -11, x -> x.loadsBy(3, 0, -1, 20));
        for (int sort = 0; sort < 2; sort++) {
            int other = sort;
            bounds.keeps("46: -13 ahead of -12", -13, x -> x.loadsBy(0, other, -1, 1));
            bounds.keeps("46: -13, though none is read", -13, x -> x.loadsBy(0, other, 0, 0));
        }
    }

    private static void loadsByLeavesOut() {
        int[] places = {LEAST, -1, 0, 7, 8, MOST};
        int[] loads = {LEAST, -1, 0, 40, 41, MOST};
        for (int place : places) {
            for (int load : loads) {
                PullsToTheLeft x = new PullsToTheLeft();
                x.set(0, 0, 5);
                x.set(0, 7, 6);
                x.sheet(0, 2, 2);
                x.cell(0, 0, place);
                x.cell(0, 1, load);
                boolean soIs = (place == 0 || place == 7) && (load == 0 || load == 40);
                due.same("46: place " + place + ", load " + load, soIs ? 1 : 0, x.loadsBy(0, 2, 0, 1));
                due.same("46: place 0", soIs && place == 0 ? load : 5, x.look(0, 0));
                due.same("46: place 7", soIs && place == 7 ? load : 6, x.look(0, 7));
                due.same("46: no other one", x.look(0, 0) + x.look(0, 7), x.count(4));
            }
        }
    }

    private static void loadsByUpToTheEnd() {
        for (int sort = 0; sort < 3; sort++) {
            PullsToTheLeft x = paired(sort);
            due.same("46: the first", 1, x.loadsBy(0, sort, 0, 1));
            loadsAre(x, 10, 0, 0, 0, 0, 0, 0, 0);
            due.same("46: the last", 1, x.loadsBy(0, sort, 14, 1));
            loadsAre(x, 10, 0, 0, 0, 0, 0, 0, 17);
            due.same("46: none", 0, x.loadsBy(0, sort, 0, 0));
            due.same("46: all", 8, x.loadsBy(0, sort, 0, 8));
            loadsAre(x, 10, 11, 12, 13, 14, 15, 16, 17);
            due.same("46: the load, then the next place", 0, x.loadsBy(0, sort, 1, 7));
            x.sheet(0, sort, 40);
            due.same("46: 20 times place 0", 20, x.loadsBy(0, sort, 0, 20));
            loadsAre(x, 0, 11, 12, 13, 14, 15, 16, 17);
        }
    }

    private static void loadsByWhatStoodAhead() {
        for (int sort = 0; sort < 3; sort++) {
            PullsToTheLeft x = paired(sort);
            due.same("46: the last one is outside", -12, x.loadsBy(0, sort, 10, 4));
            loadsAre(x, 0, 0, 0, 0, 0, 15, 16, 17);
            x = paired(sort);
            x.copy(0, 0, 0, 1, 15);
            due.same("46: half of the last one is outside", -12, x.loadsBy(0, sort, 1, 8));
            loadsAre(x, 10, 11, 12, 13, 14, 15, 16, 0);
            x = paired(sort);
            due.same("46: none stood ahead", -12, x.loadsBy(0, sort, 15, 1));
            due.same("46: none stood ahead", -12, x.loadsBy(0, sort, 16, 1));
            due.same("46: none stood ahead", -12, x.loadsBy(0, sort, -2, 8));
            due.same("46: none stood ahead", -12, x.loadsBy(0, sort, LEAST, 20));
            due.same("46: none stood ahead", -12, x.loadsBy(0, sort, MOST, 20));
            due.same("46: none stood ahead", -12, x.loadsBy(0, sort, MOST - 1, 20));
            due.same("46: nothing became so", 0, x.count(4));
            x.sheet(0, sort, 0);
            due.same("46: of none one", -12, x.loadsBy(0, sort, 0, 1));
            due.same("46: of none none", 0, x.loadsBy(0, sort, 0, 0));
        }
    }

    private static void takenRanges() {
        bounds.range("47: taken, kind", -2, 0, 6, (x, v) -> x.taken(0, v));
        bounds.range("47: taken at a place", -12, 0, 11, (x, v) -> x.taken(v, 0));
        bounds.range("47: taken at a place, a load", -12, 0, 11, (x, v) -> x.taken(v, 6));
        for (int kind = 0; kind < 7; kind++) {
            int as = kind;
            bounds.onlyAsks("47: taken(7, " + kind + ")", x -> x.taken(7, as));
            bounds.onlyAsks("47: taken(11, " + kind + ")", x -> x.taken(11, as));
        }
    }

    private static void takenFirstTold() {
        for (int kind : new int[] {LEAST, -1, 7, MOST}) {
            for (int i : new int[] {LEAST, -1, 0, 8, 12, MOST}) bounds.keeps("47: BAD ahead of all", -2, x -> x.taken(i, kind));
        }
        Bounds bare = new Bounds(due, x -> x.set(0, 7, 0));
        for (int kind = 0; kind < 7; kind++) {
            int as = kind;
            bare.keeps("47: -11 ahead of -13", -11, x -> x.taken(7, as));
        }
    }

    private static void takenLoads() {
        PullsToTheLeft x = new PullsToTheLeft();
        for (int p = 0; p < 8; p++) {
            due.same("47: nothing lies there", -11, x.taken(p, 6));
            x.set(0, p, 1);
            due.same("47: 1 does", 1, x.taken(p, 6));
            x.set(0, p, 40);
            due.same("47: 40 do", 40, x.taken(p, 6));
            for (int kind = 0; kind < 6; kind++) due.same("47: a load is no wheel", -13, x.taken(p, kind));
        }
    }

    /** Of kinds 0 to 5 (rows), which are of kinds 0 to 5 (columns), too. */
    private static final String[] IS = {"100000", "110000", "101000", "110100", "101010", "100001"};

    private static void takenWheels() {
        for (int w = 0; w < 4; w++) {
            PullsToTheLeft x = new PullsToTheLeft();
            for (int kind = 0; kind < 6; kind++) {
                x.wheel(w, kind, 0);
                for (int as = 0; as < 6; as++) {
                    due.same("47: kind " + kind + " for " + as, IS[kind].charAt(as) == '1' ? w : -13, x.taken(8 + w, as));
                }
                due.same("47: a wheel is no load", -13, x.taken(8 + w, 6));
            }
        }
    }
}
