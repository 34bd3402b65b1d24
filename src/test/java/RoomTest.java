import java.lang.management.ManagementFactory;
import java.lang.reflect.Array;
import java.lang.reflect.Field;
import java.lang.reflect.Modifier;
import java.util.ArrayList;
import java.util.Arrays;
import java.util.Collections;
import java.util.IdentityHashMap;
import java.util.List;
import java.util.Set;

/** All calls of one run live in one room: only a new object and a new text may take any of it, and these little. */
public final class RoomTest {
    private static final int ROUNDS = 50;

    public static void main(String[] args) {
        Due due = new Due();
        com.sun.management.ThreadMXBean threads =
                (com.sun.management.ThreadMXBean) ManagementFactory.getThreadMXBean();
        long thread = Thread.currentThread().getId();
        PullsToTheLeft x = new PullsToTheLeft();
        ask(x);
        threads.getThreadAllocatedBytes(thread);
        long before = threads.getThreadAllocatedBytes(thread);
        for (int i = 0; i < ROUNDS; i++) ask(x);
        long taken = threads.getThreadAllocatedBytes(thread) - before;
        // The measuring itself takes a little; a single row a call would take far more.
        due.same("bytes that " + ROUNDS + " rounds took, by 10000", 0, taken / 10000);
        full(due);
        due.end();
    }

    /** As many texts as there can be, each as long as the tape has room for. */
    private static void full(Due due) {
        PullsToTheLeft x = new PullsToTheLeft();
        String text = "drags 1" + "+1".repeat(68) + ";holds 1;bumps 1;";
        for (int t = 1; t <= 5; t++) due.same("a long text", t, Due.read(x, text));
        ask(x);
        long objects = 0;
        long numbers = 0;
        Set<Object> seen = Collections.newSetFromMap(new IdentityHashMap<>());
        List<Object> open = new ArrayList<>(List.of(x));
        while (!open.isEmpty()) {
            Object o = open.remove(open.size() - 1);
            if (!seen.add(o)) continue;
            objects++;
            numbers += o.getClass().isArray() ? Array.getLength(o) : 0;
            for (Object part : parts(o)) {
                if (!o.getClass().isArray()) numbers++;
                if (part != null && !(part instanceof Number) && !(part instanceof Boolean)) open.add(part);
            }
        }
        System.out.println(objects + " objects and arrays, " + numbers + " fields and elements in a full one");
        due.same("objects of a full one, by 100", 0, objects / 100);
        due.same("fields and elements of a full one, by 5000", 0, numbers / 5000);
    }

    private static List<Object> parts(Object o) {
        if (o instanceof Object[]) return Arrays.asList((Object[]) o);
        List<Object> parts = new ArrayList<>();
        if (o.getClass().isArray()) return parts;
        for (Field f : o.getClass().getDeclaredFields()) {
            if (Modifier.isStatic(f.getModifiers())) continue;
            f.setAccessible(true);
            try {
                parts.add(f.get(o));
            } catch (IllegalAccessException e) {
                throw new IllegalStateException(e);
            }
        }
        return parts;
    }

    private static void ask(PullsToTheLeft x) {
        for (int w = 0; w < 4; w++) {
            x.wheel(w, w + 1, 5);
            x.kick(w);
            x.set(0, 2 * w, 7);
        }
        x.come(50);
        x.feed(5, 1, 2, 3, 4, 5);
        x.text();
        for (int what = 0; what < 2; what++) {
            x.at(29, what);
            x.roll(what);
            x.straight(what);
            x.hold(what);
            x.put(3, what);
            x.swap(what);
            x.lay(what);
            x.mend(what);
            x.held(0, what);
            x.kinds(0, 1, what);
            x.meets(24, what);
            x.share(24, what);
            x.best(24, what);
            x.first(24, what);
            x.drawn(5, what);
            x.odds(5, 30, what);
        }
        x.exact();
        x.quick();
        x.flutters();
        x.change(500);
        x.turned();
        x.sheet(1, 2, 40);
        x.film(0, 30);
        x.judge(0);
        x.which(0);
        x.laws(0);
        x.day(24);
        x.image();
        x.back();
        x.cell(1, 0, 5);
        x.copy(1, 0, 0, 0, 30);
        x.loadsBy(1, 2, 0, 20);
        x.taken(8, 1);
    }
}
