/** The bounds of promises 7 to 11: wheel, kick, told, set, look. */
public final class WheelBoundsTest {
    private static final int LEAST = Integer.MIN_VALUE, MOST = Integer.MAX_VALUE;
    private static final Due due = new Due();
    private static final Bounds bounds = new Bounds(due);

    public static void main(String[] args) {
        // 7
        wheelRanges();
        wheelWasFromLeastToMost();
        wheelUnkicks();
        // 8
        kickRanges();
        kickedNineTimes();
        // 9
        toldRanges();
        loadOverAWheel();
        loudFrom0To27();
        // 10
        setRanges();
        setOfAnyWhereItDoesNotMatter();
        setFirstTold();
        setFromLeastToMost();
        setEveryPlaceAndTenth();
        // 11
        lookRanges();
        lookChangesNothing();
        due.end();
    }

    private static void wheelRanges() {
        bounds.range("7: wheel", -5, 0, 3, (x, v) -> x.wheel(v, 1, 1));
        bounds.range("7: kind", -7, 0, 5, (x, v) -> x.wheel(2, v, 1));
        bounds.range("7: more", -7, 0, 9, (x, v) -> x.wheel(2, 1, v));
        for (int w : new int[] {LEAST, -1, 4, MOST}) {
            bounds.keeps("7: -5 ahead of -7, kind", -5, x -> x.wheel(w, 6, 0));
            bounds.keeps("7: -5 ahead of -7, more", -5, x -> x.wheel(w, 0, -1));
        }
        bounds.keeps("7: both are wrong", -7, x -> x.wheel(0, MOST, LEAST));
    }

    private static void wheelWasFromLeastToMost() {
        for (int w = 0; w < 4; w++) {
            PullsToTheLeft x = new PullsToTheLeft();
            int was = 0;
            for (int kind = 5; kind >= 0; kind--) {
                for (int more = 9; more >= 0; more -= 9) {
                    due.same("7: was", was, x.wheel(w, kind, more));
                    due.same("7: kind", kind, x.told(w, 0));
                    due.same("7: more", more, x.told(w, 1));
                    was = 10 * kind + more;
                }
            }
            for (int other = 0; other < 4; other++) {
                if (other != w) due.same("7: the others were not touched", 0, x.wheel(other, 0, 0));
            }
        }
    }

    private static void wheelUnkicks() {
        PullsToTheLeft x = new PullsToTheLeft();
        for (int k = 1; k <= 9; k++) x.kick(2);
        due.same("7: kicked as often as can be", -3, x.kick(2));
        due.same("7: as it was already", 0, x.wheel(2, 0, 0));
        due.same("7: not kicked at all", 0, x.told(2, 2));
        for (int k = 1; k <= 9; k++) {
            x.kick(2);
            due.same("7: kicked anew", k, x.told(2, 2));
        }
        due.same("7: kicked as often as can be", -3, x.kick(2));
    }

    private static void kickRanges() {
        bounds.range("8: kick", -5, 0, 3, (x, v) -> x.kick(v));
        Bounds kicked = new Bounds(due, x -> {
            for (int k = 2; k <= 9; k++) x.kick(0);
        });
        kicked.keeps("8: 9 times already", -3, x -> x.kick(0));
        kicked.range("8: kick", -5, 0, 3, (x, v) -> x.kick(v));
    }

    private static void kickedNineTimes() {
        for (int w = 0; w < 4; w++) {
            for (int kind = 0; kind < 6; kind++) {
                PullsToTheLeft x = new PullsToTheLeft();
                x.wheel(w, kind, 9);
                for (int k = 1; k <= 9; k++) {
                    int loud = kind == 1 ? k : kind == 3 ? 2 * k + 9 : 0;
                    due.same("8: kind " + kind + " kicked " + k, loud, x.kick(w));
                    due.same("8: how often", k, x.told(w, 2));
                }
                due.same("8: a tenth time", -3, x.kick(w));
                due.same("8: no more than 9", 9, x.told(w, 2));
                due.same("8: another one", 0, x.told((w + 1) % 4, 2));
            }
        }
    }

    private static void toldRanges() {
        bounds.range("9: told of a wheel", -5, 0, 3, (x, v) -> x.told(v, 0));
        bounds.range("9: told what", -7, 0, 4, (x, v) -> x.told(3, v));
        for (int w : new int[] {LEAST, -1, 4, MOST}) {
            for (int what : new int[] {LEAST, -1, 5, MOST}) bounds.keeps("9: -5 ahead of -7", -5, x -> x.told(w, what));
        }
        for (int what = 0; what < 5; what++) {
            int asked = what;
            bounds.onlyAsks("9: told(3, " + what + ")", x -> x.told(3, asked));
        }
    }

    private static void loadOverAWheel() {
        PullsToTheLeft x = new PullsToTheLeft();
        for (int w = 0; w < 4; w++) {
            due.same("9: nothing over it", 0, x.told(w, 4));
            x.set(0, 2 * w, 40);
            due.same("9: the first place", 40, x.told(w, 4));
            x.set(0, 2 * w + 1, 40);
            due.same("9: both places", 80, x.told(w, 4));
            x.set(0, 2 * w, 0);
            due.same("9: the second place", 40, x.told(w, 4));
        }
    }

    private static void loudFrom0To27() {
        PullsToTheLeft x = new PullsToTheLeft();
        x.wheel(1, 3, 0);
        due.same("9: threaded, more 0, not kicked", 0, x.told(1, 3));
        x.wheel(1, 3, 9);
        due.same("9: threaded, more 9, not kicked", 9, x.told(1, 3));
        for (int k = 1; k <= 9; k++) x.kick(1);
        due.same("9: threaded, more 9, kicked 9 times", 27, x.told(1, 3));
        x.wheel(1, 1, 9);
        due.same("9: sticking, not kicked", 0, x.told(1, 3));
        for (int k = 1; k <= 9; k++) x.kick(1);
        due.same("9: sticking, kicked 9 times", 9, x.told(1, 3));
    }

    private static void setRanges() {
        bounds.range("10: set what", -5, 0, 4, (x, v) -> x.set(v, 0, 1));
        bounds.range("10: set a place", -6, 0, 7, (x, v) -> x.set(0, v, 1));
        bounds.range("10: set a tenth", -6, 0, 29, (x, v) -> x.set(4, v, 1));
        bounds.range("10: set a load", -7, 0, 40, (x, v) -> x.set(0, 7, v));
        bounds.range("10: set the left hand", -7, 0, 9, (x, v) -> x.set(1, 0, v));
        bounds.range("10: set the right hand", -7, 0, 9, (x, v) -> x.set(2, 0, v));
        bounds.range("10: set pace", -7, 1, 9, (x, v) -> x.set(3, 0, v));
        bounds.range("10: set how wide", -7, 1, 99, (x, v) -> x.set(4, 29, v));
    }

    private static void setOfAnyWhereItDoesNotMatter() {
        bounds.any("10: of does not matter, left hand", 4, (x, v) -> x.set(1, v, 9));
        bounds.any("10: of does not matter, right hand", 5, (x, v) -> x.set(2, v, 9));
        bounds.any("10: of does not matter, pace", 5, (x, v) -> x.set(3, v, 9));
        bounds.any("10: of does not matter, then -7", -7, (x, v) -> x.set(1, v, 10));
        bounds.any("10: of does not matter, then -7", -7, (x, v) -> x.set(2, v, -1));
        bounds.any("10: of does not matter, then -7", -7, (x, v) -> x.set(3, v, 0));
    }

    private static void setFirstTold() {
        for (int what : new int[] {LEAST, -1, 5, MOST}) {
            bounds.keeps("10: -5 ahead of -6 and -7", -5, x -> x.set(what, 8, 41));
            bounds.keeps("10: -5 ahead of -7", -5, x -> x.set(what, 0, -1));
        }
        for (int v : new int[] {LEAST, -1, 41, MOST}) {
            bounds.keeps("10: -6 ahead of -7, place -1", -6, x -> x.set(0, -1, v));
            bounds.keeps("10: -6 ahead of -7, place 8", -6, x -> x.set(0, 8, v));
        }
        for (int v : new int[] {LEAST, 0, 100, MOST}) {
            bounds.keeps("10: -6 ahead of -7, tenth -1", -6, x -> x.set(4, -1, v));
            bounds.keeps("10: -6 ahead of -7, tenth 30", -6, x -> x.set(4, 30, v));
        }
    }

    private static void setFromLeastToMost() {
        int[] least = {0, 0, 0, 1, 1};
        int[] most = {40, 9, 9, 9, 99};
        for (int what = 0; what < 5; what++) {
            PullsToTheLeft x = new PullsToTheLeft();
            int was = what == 3 ? 3 : what == 4 ? 20 : 0;
            for (int v = least[what]; v <= most[what]; v++) {
                due.same("10: what it was", was, x.set(what, 3, v));
                due.same("11: what it is", v, x.look(what, 3));
                was = v;
            }
            due.same("10: from the most", most[what], x.set(what, 3, least[what]));
            due.same("10: to the least", least[what], x.set(what, 3, most[what]));
            due.same("11: and back", most[what], x.look(what, 3));
        }
    }

    private static void setEveryPlaceAndTenth() {
        PullsToTheLeft x = new PullsToTheLeft();
        for (int p = 0; p < 8; p++) due.same("10: each place for itself", 0, x.set(0, p, 33 + p));
        for (int t = 0; t < 30; t++) due.same("10: each tenth for itself", 20, x.set(4, t, 70 + t));
        due.same("10: each hand for itself", 0, x.set(1, 0, 8));
        due.same("10: each hand for itself", 0, x.set(2, 0, 9));
        due.same("10: pace", 3, x.set(3, 0, 7));
        for (int p = 0; p < 8; p++) due.same("11: each place for itself", 33 + p, x.look(0, p));
        for (int t = 0; t < 30; t++) due.same("11: each tenth for itself", 70 + t, x.look(4, t));
        due.same("11: the left hand", 8, x.look(1, 0));
        due.same("11: the right hand", 9, x.look(2, 0));
        due.same("11: pace", 7, x.look(3, 0));
    }

    private static void lookRanges() {
        bounds.range("11: look what", -5, 0, 4, (x, v) -> x.look(v, 0));
        bounds.range("11: look at a place", -6, 0, 7, (x, v) -> x.look(0, v));
        bounds.range("11: look at a tenth", -6, 0, 29, (x, v) -> x.look(4, v));
        for (int what : new int[] {LEAST, -1, 5, MOST}) {
            for (int of : new int[] {LEAST, -1, 30, MOST}) bounds.keeps("11: -5 ahead of -6", -5, x -> x.look(what, of));
        }
        bounds.any("11: of does not matter, left hand", 4, (x, v) -> x.look(1, v));
        bounds.any("11: of does not matter, right hand", 5, (x, v) -> x.look(2, v));
        bounds.any("11: of does not matter, pace", 5, (x, v) -> x.look(3, v));
    }

    private static void lookChangesNothing() {
        for (int what = 0; what < 5; what++) {
            int asked = what;
            bounds.onlyAsks("11: look(" + what + ", 7)", x -> x.look(asked, 7));
        }
    }
}
