/** Promises 43 to 47: sheet, cell, copy, loadsBy, taken. */
public final class HostTest {
    private static final int LEAST = Integer.MIN_VALUE, MOST = Integer.MAX_VALUE;
    private static final Due due = new Due();

    public static void main(String[] args) {
        sheet();
        cell();
        copy();
        copyRefused();
        loadsBy();
        loadsByRefused();
        taken();
        takenForKinds();
        due.end();
    }

    private static void sheet() {
        PullsToTheLeft x = new PullsToTheLeft();
        due.same("sheet", -2, x.sheet(4, 0, -1));
        due.same("sheet", -2, x.sheet(-1, -1, 0));
        due.same("sort", -2, x.sheet(0, 3, -1));
        due.same("sort", -2, x.sheet(0, -2, 0));
        due.same("n", -2, x.sheet(0, 0, 41));
        due.same("n", -2, x.sheet(0, 0, MOST));
        due.same("n", -14, x.sheet(0, 0, -1));
        due.same("n", -14, x.sheet(0, 2, LEAST));
        due.same("nothing there yet", -11, x.cell(0, 0, 0));
        for (int sort = 0; sort < 3; sort++) {
            due.same("40", 1, x.sheet(sort, sort, 40));
            due.same("the last one", 1, x.cell(sort, 39, 1));
            due.same("none there", -12, x.cell(sort, 40, 1));
            due.same("as told", 0, x.loadsBy(sort, sort, 40, 0));
            due.same("0", 1, x.sheet(sort, sort, 0));
            due.same("none there", -12, x.cell(sort, 0, 1));
        }
        x.film(1, 3);
        x.set(2, 0, 9);
        x.film(1, 3);
        due.same("anew", 1, x.sheet(1, 2, 3));
        x.set(2, 0, 0);
        due.same("all 0", -1, x.judge(1));
        due.same("missing, n does not matter", 1, x.sheet(1, -1, 99));
        due.same("missing, n does not matter", 1, x.sheet(1, -1, -99));
        due.same("missing", -11, x.judge(1));
    }

    private static void cell() {
        PullsToTheLeft x = new PullsToTheLeft();
        due.same("sheet", -2, x.cell(4, -1, 0));
        due.same("sheet", -2, x.cell(-1, -1, 0));
        due.same("missing", -11, x.cell(3, -1, 0));
        x.sheet(3, 0, 2);
        due.same("below", -12, x.cell(3, -1, 0));
        due.same("beyond", -12, x.cell(3, 2, 0));
        due.same("beyond", -12, x.cell(3, MOST, 0));
        due.same("below", -12, x.cell(3, LEAST, 0));
        due.same("cell", 1, x.cell(3, 0, 5 + 256));
        due.same("cell", 1, x.cell(3, 1, 9 - 512));
        due.same("lowest 8 bits", 1, x.loadsBy(3, 0, 0, 1));
        due.same("lowest 8 bits", 9, x.look(0, 5));
        x.sheet(3, 1, 2);
        x.cell(3, 0, 6 + 65536);
        x.cell(3, 1, 8 + 256);
        due.same("256 matters", 0, x.loadsBy(3, 1, 0, 1));
        x.cell(3, 1, 8 - 65536);
        due.same("lowest 16 bits", 1, x.loadsBy(3, 1, 0, 1));
        due.same("lowest 16 bits", 8, x.look(0, 6));
        x.sheet(3, 2, 2);
        x.cell(3, 0, 6 + 65536);
        due.same("all bits", 0, x.loadsBy(3, 2, 0, 1));
        x.cell(3, 0, 7);
        x.cell(3, 1, 33);
        due.same("all bits", 1, x.loadsBy(3, 2, 0, 1));
        due.same("all bits", 33, x.look(0, 7));
    }

    /** A sheet of ints that tells where it goes, so that judge finds the first number that was changed. */
    private static PullsToTheLeft filmed() {
        PullsToTheLeft x = new PullsToTheLeft();
        x.set(2, 0, 1);
        x.film(0, 10);
        x.film(1, 10);
        return x;
    }

    private static void copy() {
        PullsToTheLeft x = filmed();
        x.sheet(1, 2, 10);
        due.same("all", 10, x.copy(0, 0, 1, 0, 10));
        due.same("all came", -1, x.judge(1));
        due.same("none", 0, x.copy(0, 10, 1, 10, 0));
        due.same("its own, onwards", 5, x.copy(0, 0, 0, 1, 5));
        due.same("changed from 1 on", 1, x.judge(0));
        due.same("as they were", 5, x.copy(0, 1, 0, 0, 5));
        due.same("the last of them stands twice", 5, x.judge(0));
        due.same("from the other one", 1, x.copy(1, 5, 0, 5, 1));
        due.same("mended", -1, x.judge(0));
        due.same("its own, backwards", 9, x.copy(0, 1, 0, 0, 9));
        due.same("changed from 0 on", 0, x.judge(0));
        due.same("the first again", 1, x.copy(1, 0, 0, 0, 1));
        due.same("the second is the third", 1, x.judge(0));
        x.sheet(2, 0, 4);
        x.sheet(3, 0, 4);
        x.cell(2, 0, 200);
        due.same("bytes", 4, x.copy(2, 0, 3, 0, 4));
        x.set(2, 0, 0);
        due.same("200 came", 0, x.judge(3));
        x.sheet(2, 1, 4);
        x.sheet(3, 1, 4);
        due.same("shorts", 2, x.copy(2, 2, 3, 1, 2));
    }

    private static void copyRefused() {
        PullsToTheLeft x = filmed();
        x.sheet(2, 1, 10);
        due.same("sheet", -2, x.copy(4, -1, 3, -1, -1));
        due.same("sheet", -2, x.copy(3, -1, 4, -1, -1));
        due.same("sheet", -2, x.copy(-1, 0, 0, 0, 0));
        due.same("sheet", -2, x.copy(0, 0, -1, 0, 0));
        due.same("missing", -11, x.copy(3, -1, 0, -1, -1));
        due.same("missing", -11, x.copy(0, -1, 3, -1, -1));
        due.same("unlike sorts", -13, x.copy(0, -1, 2, -1, -1));
        due.same("unlike sorts", -13, x.copy(2, 0, 0, 0, 0));
        due.same("n below 0", -12, x.copy(0, 0, 1, 0, -1));
        due.same("i below 0", -12, x.copy(0, -1, 1, 0, 0));
        due.same("j below 0", -12, x.copy(0, 0, 1, -1, 0));
        due.same("i beyond", -12, x.copy(0, 1, 1, 0, 10));
        due.same("j beyond", -12, x.copy(0, 0, 1, 1, 10));
        due.same("i beyond", -12, x.copy(0, 11, 1, 0, 0));
        due.same("i and n wrap", -12, x.copy(0, MOST, 1, 0, MOST));
        due.same("j and n wrap", -12, x.copy(0, 0, 1, MOST, MOST));
        due.same("least", -12, x.copy(0, LEAST, 1, LEAST, LEAST));
        due.same("nothing changed", -1, x.judge(1));
    }

    private static void cells(PullsToTheLeft x, int s, int sort, int... v) {
        x.sheet(s, sort, v.length);
        for (int i = 0; i < v.length; i++) x.cell(s, i, v[i]);
    }

    private static void loadsBy() {
        for (int sort = 0; sort < 3; sort++) {
            PullsToTheLeft x = new PullsToTheLeft();
            cells(x, 0, sort, 99, 0, 40, 7, 1, 3, 0, 8, 5, -1, 5, 2, 41, 2, -1, 0, 11);
            due.same("pairs", 4, x.loadsBy(0, sort, 1, 8));
            due.same("the last of one place", 11, x.look(0, 0));
            due.same("place 7", 1, x.look(0, 7));
            due.same("place 3", 0, x.look(0, 3));
            due.same("place 2 was left out", 0, x.look(0, 2));
            due.same("place 5 was not told", 0, x.look(0, 5));
            due.same("none", 0, x.loadsBy(0, sort, 0, 0));
        }
    }

    private static void loadsByRefused() {
        PullsToTheLeft x = new PullsToTheLeft();
        cells(x, 0, 2, 1, 11, 2, 12, 9, 9, 3);
        due.same("sheet", -2, x.loadsBy(4, 2, 0, 1));
        due.same("sheet", -2, x.loadsBy(-1, 2, 0, 1));
        due.same("sort", -2, x.loadsBy(0, 3, 0, 1));
        due.same("sort", -2, x.loadsBy(0, -1, 0, 1));
        due.same("n", -2, x.loadsBy(1, 2, 0, 21));
        due.same("n", -2, x.loadsBy(1, 2, 0, -1));
        due.same("missing", -11, x.loadsBy(1, 2, -1, 1));
        due.same("another sort", -13, x.loadsBy(0, 1, -1, 1));
        due.same("below", -12, x.loadsBy(0, 2, -1, 1));
        due.same("below", -12, x.loadsBy(0, 2, LEAST, 20));
        due.same("beyond", -12, x.loadsBy(0, 2, 7, 1));
        due.same("half beyond", -12, x.loadsBy(0, 2, 6, 1));
        due.same("far beyond", -12, x.loadsBy(0, 2, MOST, 20));
        due.same("nothing became so", 0, x.count(4));
        due.same("some, then outside", -12, x.loadsBy(0, 2, 0, 4));
        due.same("what stood ahead became so", 11, x.look(0, 1));
        due.same("what stood ahead became so", 12, x.look(0, 2));
        due.same("the others not", 23, x.count(4));
        cells(x, 1, 0, new int[40]);
        due.same("20 of them", 20, x.loadsBy(1, 0, 0, 20));
        due.same("just beyond", -12, x.loadsBy(1, 0, 1, 20));
    }

    private static void taken() {
        PullsToTheLeft x = new PullsToTheLeft();
        x.set(0, 0, 1);
        x.set(0, 7, 40);
        due.same("a load", 1, x.taken(0, 6));
        due.same("a load", 40, x.taken(7, 6));
        for (int kind = 0; kind < 6; kind++) due.same("a load is no wheel", -13, x.taken(7, kind));
        for (int kind = 0; kind < 7; kind++) due.same("nothing lies there", -11, x.taken(1, kind));
        for (int i = 8; i < 12; i++) {
            due.same("a wheel", i - 8, x.taken(i, 0));
            due.same("a wheel is no load", -13, x.taken(i, 6));
        }
        due.same("kind ahead of all", -2, x.taken(99, 7));
        due.same("kind ahead of all", -2, x.taken(1, -1));
        due.same("outside", -12, x.taken(12, 6));
        due.same("outside", -12, x.taken(-1, 0));
        due.same("outside", -12, x.taken(LEAST, 0));
        x.set(0, 0, 0);
        due.same("nothing lies there", -11, x.taken(0, 6));
    }

    private static void takenForKinds() {
        String[] taken = {"0", "01", "02", "013", "024", "05"};
        for (int kind = 0; kind < 6; kind++) {
            PullsToTheLeft x = new PullsToTheLeft();
            x.wheel(2, kind, 1);
            for (int as = 0; as < 6; as++) {
                int want = taken[kind].indexOf('0' + as) >= 0 ? 2 : -13;
                due.same("kind " + kind + " for " + as, want, x.taken(10, as));
            }
        }
    }
}
