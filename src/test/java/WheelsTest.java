/** Promises 7 to 11: wheel, kick, told, set, look. */
public final class WheelsTest {
    private static final Due due = new Due();

    public static void main(String[] args) {
        wheel();
        wheelRefused();
        kick();
        told();
        loads();
        handsAndPace();
        wide();
        setRefused();
        look();
        due.end();
    }

    private static void wheel() {
        PullsToTheLeft x = new PullsToTheLeft();
        due.same("wheel(0, 5, 9)", 0, x.wheel(0, 5, 9));
        due.same("wheel(0, 1, 2)", 59, x.wheel(0, 1, 2));
        due.same("wheel(3, 4, 0)", 0, x.wheel(3, 4, 0));
        x.kick(0);
        x.kick(3);
        due.same("wheel(0, 1, 2)", 12, x.wheel(0, 1, 2));
        due.same("not kicked at all", 0, x.told(0, 2));
        due.same("the others as they were", 1, x.told(3, 2));
        due.same("the others as they were", 4, x.told(3, 0));
        due.same("wheel(3, 0, 0)", 40, x.wheel(3, 0, 0));
    }

    private static void wheelRefused() {
        PullsToTheLeft x = new PullsToTheLeft();
        x.wheel(0, 1, 2);
        x.kick(0);
        due.same("wheel 4", -5, x.wheel(4, 0, 0));
        due.same("wheel -1", -5, x.wheel(-1, 9, 99));
        due.same("kind 6", -7, x.wheel(0, 6, 0));
        due.same("kind -1", -7, x.wheel(0, -1, 0));
        due.same("more 10", -7, x.wheel(0, 0, 10));
        due.same("more -1", -7, x.wheel(0, 0, -1));
        due.same("nothing changed", 1, x.told(0, 0));
        due.same("nothing changed", 2, x.told(0, 1));
        due.same("nothing changed", 1, x.told(0, 2));
    }

    private static void kick() {
        int[] loudAtOne = {0, 1, 0, 2 + 4, 0, 0};
        int[] loudAtNine = {0, 9, 0, 18 + 4, 0, 0};
        for (int kind = 0; kind < 6; kind++) {
            PullsToTheLeft x = new PullsToTheLeft();
            x.wheel(1, kind, 4);
            due.same("kicked once, kind " + kind, loudAtOne[kind], x.kick(1));
            for (int k = 2; k < 9; k++) x.kick(1);
            due.same("kicked 9 times, kind " + kind, loudAtNine[kind], x.kick(1));
            due.same("kicked 9 times already", -3, x.kick(1));
            due.same("nothing changed", 9, x.told(1, 2));
        }
        PullsToTheLeft x = new PullsToTheLeft();
        due.same("kick(4)", -5, x.kick(4));
        due.same("kick(-1)", -5, x.kick(-1));
    }

    private static void told() {
        PullsToTheLeft x = new PullsToTheLeft();
        x.wheel(2, 3, 7);
        x.kick(2);
        x.kick(2);
        x.set(0, 4, 3);
        x.set(0, 5, 40);
        due.same("kind", 3, x.told(2, 0));
        due.same("more", 7, x.told(2, 1));
        due.same("kicked", 2, x.told(2, 2));
        due.same("loud", 11, x.told(2, 3));
        due.same("load", 43, x.told(2, 4));
        due.same("no load", 0, x.told(1, 4));
        due.same("told(4, 0)", -5, x.told(4, 0));
        due.same("told(-1, 9)", -5, x.told(-1, 9));
        due.same("told(0, 5)", -7, x.told(0, 5));
        due.same("told(0, -1)", -7, x.told(0, -1));
    }

    private static void loads() {
        PullsToTheLeft x = new PullsToTheLeft();
        for (int p = 0; p < 8; p++) due.same("set", 0, x.set(0, p, 40 - p));
        for (int p = 0; p < 8; p++) due.same("look", 40 - p, x.look(0, p));
        for (int w = 0; w < 4; w++) due.same("over a wheel", 80 - 4 * w - 1, x.told(w, 4));
        due.same("set", 40, x.set(0, 0, 0));
        due.same("look", 0, x.look(0, 0));
    }

    private static void handsAndPace() {
        PullsToTheLeft x = new PullsToTheLeft();
        due.same("left", 0, x.set(1, -77, 9));
        due.same("right", 0, x.set(2, 77, 8));
        due.same("pace", 3, x.set(3, 1000, 1));
        due.same("left", 9, x.set(1, 0, 0));
        due.same("right", 8, x.set(2, 0, 9));
        due.same("pace", 1, x.set(3, 0, 9));
        due.same("left", 0, x.look(1, -1));
        due.same("right", 9, x.look(2, 99));
        due.same("pace", 9, x.look(3, Integer.MIN_VALUE));
    }

    private static void wide() {
        PullsToTheLeft x = new PullsToTheLeft();
        for (int t = 0; t < 30; t++) due.same("set", 20, x.set(4, t, 99 - t));
        for (int t = 0; t < 30; t++) due.same("look", 99 - t, x.look(4, t));
        due.same("set", 70, x.set(4, 29, 1));
        due.same("look", 1, x.look(4, 29));
    }

    private static void setRefused() {
        PullsToTheLeft x = new PullsToTheLeft();
        due.same("what 5", -5, x.set(5, 99, 999));
        due.same("what -1", -5, x.set(-1, 0, 0));
        due.same("place 8", -6, x.set(0, 8, 999));
        due.same("place -1", -6, x.set(0, -1, 0));
        due.same("tenth 30", -6, x.set(4, 30, 0));
        due.same("tenth -1", -6, x.set(4, -1, 1));
        int[] below = {-1, -1, -1, 0, 0};
        int[] above = {41, 10, 10, 10, 100};
        int[] was = {0, 0, 0, 3, 20};
        for (int what = 0; what < 5; what++) {
            due.same("v below", -7, x.set(what, 0, below[what]));
            due.same("v above", -7, x.set(what, 0, above[what]));
            due.same("nothing changed", was[what], x.look(what, 0));
            due.same("v least", was[what], x.set(what, 0, below[what] + 1));
            due.same("v most", below[what] + 1, x.set(what, 0, above[what] - 1));
            due.same("v most", above[what] - 1, x.look(what, 0));
        }
    }

    private static void look() {
        PullsToTheLeft x = new PullsToTheLeft();
        due.same("what 5", -5, x.look(5, 99));
        due.same("what -1", -5, x.look(-1, 0));
        due.same("place 8", -6, x.look(0, 8));
        due.same("place -1", -6, x.look(0, -1));
        due.same("tenth 30", -6, x.look(4, 30));
        due.same("tenth -1", -6, x.look(4, -1));
    }
}
