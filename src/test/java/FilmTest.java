/** Promises 25 to 30: judge, kinds, which, held, laws, film. */
public final class FilmTest {
    private static final Due due = new Due();

    public static void main(String[] args) {
        judge();
        judgeBySorts();
        refusals();
        kinds();
        which();
        held();
        laws();
        film();
        due.end();
    }

    private static void judge() {
        PullsToTheLeft x = new PullsToTheLeft();
        x.set(2, 0, 1);
        x.sheet(0, 2, 30);
        due.same("tenth 0", 0, x.judge(0));
        for (int t = 0; t < 30; t++) {
            due.same("told so far", t, x.judge(0));
            x.cell(0, t, Math.max(-20, -t - 1));
        }
        due.same("none", -1, x.judge(0));
        x.cell(0, 29, -19);
        due.same("the last one", 29, x.judge(0));
        x.cell(0, 3, 0);
        due.same("the first of two", 3, x.judge(0));
        x.sheet(0, 2, 0);
        due.same("nothing told", -1, x.judge(0));
    }

    private static void judgeBySorts() {
        PullsToTheLeft x = new PullsToTheLeft();
        x.set(2, 0, 1);
        for (int sort = 0; sort < 3; sort++) {
            x.sheet(sort, sort, 2);
            x.cell(sort, 0, -1);
            x.cell(sort, 1, -2);
            due.same("below 0", -1, x.judge(sort));
            x.cell(sort, 0, 255);
            due.same("255 is -1 as a byte", sort == 0 ? -1 : 0, x.judge(sort));
            x.cell(sort, 0, 65535);
            due.same("65535 is -1 as a byte or a short", sort < 2 ? -1 : 0, x.judge(sort));
        }
    }

    private static void refusals() {
        PullsToTheLeft x = new PullsToTheLeft();
        x.sheet(1, 0, 31);
        x.sheet(2, 0, 30);
        for (int s : new int[] {-1, 4}) {
            due.same("judge: sheet", -2, x.judge(s));
            due.same("kinds: sheet", -2, x.kinds(s, 9, 9));
            due.same("which: sheet", -2, x.which(s));
            due.same("held: sheet", -2, x.held(s, 9));
            due.same("laws: sheet", -2, x.laws(s));
        }
        due.same("judge: missing", -11, x.judge(0));
        due.same("kinds: missing", -11, x.kinds(0, 9, 9));
        due.same("which: missing", -11, x.which(0));
        due.same("held: missing", -11, x.held(0, 9));
        due.same("laws: missing", -11, x.laws(0));
        due.same("judge: 31", -2, x.judge(1));
        due.same("kinds: 31", -2, x.kinds(1, 9, 9));
        due.same("which: 31", -2, x.which(1));
        due.same("held: 31", -2, x.held(1, 9));
        due.same("laws: 31", -2, x.laws(1));
        due.same("judge: 30", -1, x.judge(2));
        due.same("kinds: wheel", -5, x.kinds(2, 4, 9));
        due.same("kinds: wheel", -5, x.kinds(2, -1, 0));
        due.same("kinds: sort", -7, x.kinds(2, 3, 2));
        due.same("kinds: sort", -7, x.kinds(2, 3, -1));
        due.same("held: what", -7, x.held(2, 2));
        due.same("held: what", -7, x.held(2, -1));
    }

    private static void kinds() {
        PullsToTheLeft x = new PullsToTheLeft();
        x.wheel(0, 2, 1);
        x.film(0, 30);
        due.same("turning alone", 4, x.kinds(0, 0, 0));
        // 2 * more + 1 of 3 .. 5 goes 1 a tenth.
        due.same("more 1, 2", 6, x.kinds(0, 0, 1));
        // Wheel 1, with more 0: a pull of 3, 3, 4, 3 and 5, but 21 if it flutters.
        due.same("all else being as it is", 47, x.kinds(0, 1, 0));
        x.wheel(0, 0, 1);
        due.same("found again", 4, x.kinds(0, 0, 0));
        due.same("more alone won't do", 0, x.kinds(0, 0, 1));
        x.wheel(0, 2, 9);
        due.same("kind alone won't do", 0, x.kinds(0, 0, 0));
        due.same("more will", 6, x.kinds(0, 0, 1));
        x.sheet(1, 0, 0);
        due.same("any kind", 63, x.kinds(1, 2, 0));
        due.same("any more", 1023, x.kinds(1, 2, 1));
        due.same("in thought", 29, 10 * x.told(0, 0) + x.told(0, 1));
        x.wheel(0, 0, 0);
        x.wheel(3, 5, 9);
        x.set(3, 0, 9);
        x.film(2, 1);
        // 2 to the left times 9 by 8: lifted, or turning by 0 or 1 against nothing.
        due.same("lifted, whatever more is", 1023, x.kinds(2, 3, 1));
        x.set(0, 6, 3);
        due.same("lifted by 3, so more is 1 or above", 1022, x.kinds(2, 3, 1));
    }

    private static void which() {
        PullsToTheLeft x = new PullsToTheLeft();
        x.wheel(1, 1, 4);
        x.film(0, 30);
        due.same("one to the right", 10, x.which(0));
        x.wheel(1, 0, 0);
        x.wheel(2, 2, 1);
        x.film(0, 30);
        due.same("any turns to the left", 15, x.which(0));
        for (int w = 0; w < 4; w++) x.wheel(w, 1 + w, 9);
        due.same("whatever they are now", 15, x.which(0));
        due.same("in thought", 19, 10 * x.told(0, 0) + x.told(0, 1));
        for (int w = 0; w < 4; w++) x.wheel(w, 0, 0);
        x.film(0, 30);
        due.same("it may be a plain one", 15, x.which(0));
        x.cell(0, 0, 5);
        due.same("none goes so", 0, x.which(0));
        x.wheel(0, 3, 9);
        x.film(0, 30);
        due.same("threaded to the left", 5, x.which(0));
        x.set(0, 0, 1);
        x.wheel(0, 4, 1);
        x.film(0, 6);
        due.same("fluttering", 15, x.which(0));
        x = new PullsToTheLeft();
        Due.read(x, "drags more*10*(wheel=3);holds 0;bumps 0;");
        x.force(1);
        x.wheel(3, 0, 4);
        x.set(4, 1, 99);
        // 40 times 3 by 8: no other kind, with any more, goes 15 to the right.
        x.film(0, 2);
        for (int w = 0; w < 3; w++) x.wheel(w, 0, 9);
        due.same("a plain one with more", 8, x.which(0));
        x.wheel(3, 0, 0);
        x.film(0, 2);
        due.same("all plain ones with more 0", 15, x.which(0));
    }

    private static void held() {
        PullsToTheLeft x = new PullsToTheLeft();
        x.set(1, 0, 3);
        x.set(2, 0, 4);
        x.film(0, 30);
        x.set(1, 0, 9);
        due.same("0 and 1 .. 8 and 9", 9, x.held(0, 0));
        due.same("the first", 1, x.held(0, 1));
        x.set(1, 0, 0);
        x.set(2, 0, 9);
        x.film(0, 1);
        due.same("0 and 9", 1, x.held(0, 0));
        due.same("0 and 9", 9, x.held(0, 1));
        x.set(1, 0, 9);
        x.set(2, 0, 0);
        x.film(0, 1);
        due.same("9 and 0", 90, x.held(0, 1));
        x.cell(0, 0, 19);
        due.same("none", 0, x.held(0, 0));
        due.same("none", -1, x.held(0, 1));
        x.film(0, 0);
        due.same("all", 100, x.held(0, 0));
        due.same("all", 0, x.held(0, 1));
        due.same("in thought", 9, x.look(1, 0));
        due.same("in thought", 0, x.look(2, 0));
    }

    private static void laws() {
        PullsToTheLeft x = new PullsToTheLeft();
        x.set(0, 0, 4);
        x.film(0, 30);
        due.same("text 0", 1, x.laws(0));
        Due.read(x, "drags 0;holds 99;bumps 99;");
        Due.read(x, "drags load*2;holds 0;bumps 0;");
        due.same("texts 0 and 2", 5, x.laws(0));
        x.force(1);
        due.same("whatever is the law", 5, x.laws(0));
        x.film(0, 30);
        due.same("text 1", 2, x.laws(0));
        due.same("in thought", 1, x.count(2));
        x.film(0, 0);
        due.same("all of them", 7, x.laws(0));
        Due.read(x, "drags 1;holds 0;bumps 0;");
        Due.read(x, "drags 2;holds 0;bumps 0;");
        Due.read(x, "drags 3;holds 0;bumps 0;");
        due.same("all six", 63, x.laws(0));
        x.sheet(1, 0, 1);
        x.cell(1, 0, 77);
        due.same("none", 0, x.laws(1));
    }

    private static void film() {
        PullsToTheLeft x = new PullsToTheLeft();
        x.set(2, 0, 1);
        x.sheet(0, 0, 40);
        due.same("film(0, 30)", 30, x.film(0, 30));
        due.same("as it goes", -1, x.judge(0));
        due.same("30 of them", -12, x.cell(0, 30, 0));
        due.same("ints", 0, x.loadsBy(0, 2, 0, 15));
        due.same("no bytes", -13, x.loadsBy(0, 0, 0, 15));
        due.same("film(3, 0)", 0, x.film(3, 0));
        due.same("none of them", -12, x.cell(3, 0, 0));
        due.same("film(3, 5)", 5, x.film(3, 5));
        x.cell(3, 4, 70000);
        due.same("ints", 4, x.judge(3));
        due.same("sheet 4", -2, x.film(4, 5));
        due.same("sheet -1", -2, x.film(-1, 5));
        due.same("31", -2, x.film(3, 31));
        due.same("-1", -2, x.film(3, -1));
        due.same("nothing changed", 4, x.judge(3));
    }
}
