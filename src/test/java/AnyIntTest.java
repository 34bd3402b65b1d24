import java.lang.reflect.InvocationTargetException;
import java.lang.reflect.Method;
import java.lang.reflect.Modifier;
import java.util.Arrays;
import java.util.function.Supplier;

/** No call throws, for whatever ints, of an object with nothing, with something and with as much as can be. */
public final class AnyIntTest {
    private static final int[] MANY = {Integer.MIN_VALUE, -1, 0, 1, 8, 40, Integer.MAX_VALUE};
    private static final int[] FEW = {Integer.MIN_VALUE, 0, 3, Integer.MAX_VALUE};
    /** The document tells of 512 calls of an object; making it full takes up to 220 of them. */
    private static final int CALLS_EACH = 512 - 220;

    private final Supplier<PullsToTheLeft> made;
    private PullsToTheLeft x;
    private int calls;
    private int asked;
    private int thrown;

    private AnyIntTest(Supplier<PullsToTheLeft> made) {
        this.made = made;
    }

    public static void main(String[] args) throws Exception {
        Due due = new Due();
        due.same("thrown by a new object", 0, new AnyIntTest(PullsToTheLeft::new).askAll());
        due.same("thrown by one with something of everything", 0, new AnyIntTest(Whole::rich).askAll());
        due.same("thrown by a full one", 0, new AnyIntTest(AnyIntTest::full).askAll());
        due.end();
    }

    /** Texts, tape, trolleys, loads, sheets: nothing more comes; the wheels and the law are the dearest. */
    private static PullsToTheLeft full() {
        PullsToTheLeft x = new PullsToTheLeft();
        for (int t = 1; t <= 5; t++) Due.read(x, "drags tenth*load-9;holds hand;bumps load+9;");
        x.force(5);
        Due.feed(x, "(".repeat(160));
        for (int t = 0; t < 8; t++) x.come(99);
        for (int p = 0; p < 8; p++) x.set(0, p, 40);
        for (int w = 0; w < 4; w++) x.wheel(w, 1 + w, 9);
        for (int hand = 1; hand < 4; hand++) x.set(hand, 0, 9);
        x.film(0, 30);
        for (int s = 1; s < 4; s++) x.sheet(s, s - 1, 40);
        x.image();
        return x;
    }

    private int askAll() throws Exception {
        x = made.get();
        Method[] all = PullsToTheLeft.class.getDeclaredMethods();
        Arrays.sort(all, (a, b) -> a.getName().compareTo(b.getName()));
        for (Method m : all) {
            if (Modifier.isPublic(m.getModifiers())) askWithAll(m, new Object[m.getParameterCount()], 0);
        }
        System.out.println(asked + " calls");
        return thrown;
    }

    private void askWithAll(Method m, Object[] numbers, int from) throws Exception {
        if (from == numbers.length) {
            ask(m, numbers);
            return;
        }
        for (int v : numbers.length > 4 ? FEW : MANY) {
            numbers[from] = v;
            askWithAll(m, numbers, from + 1);
        }
    }

    private void ask(Method m, Object[] numbers) throws Exception {
        calls++;
        asked++;
        if (calls > CALLS_EACH) {
            x = made.get();
            calls = 1;
        }
        try {
            m.invoke(x, numbers);
        } catch (InvocationTargetException e) {
            thrown++;
            System.out.println(m.getName() + Arrays.toString(numbers) + " threw " + e.getCause());
        }
    }
}
