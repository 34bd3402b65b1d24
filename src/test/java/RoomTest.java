import java.lang.management.ManagementFactory;

/** All calls of one run live in one room: only a new object and a new text may take any of it. */
public final class RoomTest {
    private static final int ROUNDS = 50;

    public static void main(String[] args) {
        Due due = new Due();
        com.sun.management.ThreadMXBean threads =
                (com.sun.management.ThreadMXBean) ManagementFactory.getThreadMXBean();
        long thread = Thread.currentThread().getId();
        PullsToTheLeft x = new PullsToTheLeft();
        ask(x);
        threads.getThreadAllocatedBytes(thread);
        long before = threads.getThreadAllocatedBytes(thread);
        for (int i = 0; i < ROUNDS; i++) ask(x);
        long taken = threads.getThreadAllocatedBytes(thread) - before;
        // The measuring itself takes a little; a single row a call would take far more.
        due.same("bytes that " + ROUNDS + " rounds took, by 10000", 0, taken / 10000);
        due.end();
    }

    private static void ask(PullsToTheLeft x) {
        for (int w = 0; w < 4; w++) {
            x.wheel(w, w + 1, 5);
            x.kick(w);
            x.set(0, 2 * w, 7);
        }
        x.come(50);
        x.feed(5, 1, 2, 3, 4, 5);
        x.text();
        for (int what = 0; what < 2; what++) {
            x.at(29, what);
            x.roll(what);
            x.straight(what);
            x.hold(what);
            x.put(3, what);
            x.swap(what);
            x.lay(what);
            x.mend(what);
            x.held(0, what);
            x.kinds(0, 1, what);
            x.meets(24, what);
            x.share(24, what);
            x.best(24, what);
            x.first(24, what);
            x.drawn(5, what);
            x.odds(5, 30, what);
        }
        x.exact();
        x.quick();
        x.flutters();
        x.change(500);
        x.turned();
        x.sheet(1, 2, 40);
        x.film(0, 30);
        x.judge(0);
        x.which(0);
        x.laws(0);
        x.day(24);
        x.image();
        x.back();
        x.cell(1, 0, 5);
        x.copy(1, 0, 0, 0, 30);
        x.loadsBy(1, 2, 0, 20);
        x.taken(8, 1);
    }
}
