import java.lang.reflect.InvocationTargetException;
import java.lang.reflect.Method;
import java.util.ArrayList;
import java.util.Arrays;
import java.util.List;
import java.util.Random;

/** Runs of calls by lot, each answered by the class and by the plain model: the answers are the same. */
public final class AgainstModelTest {
    private static final int RUNS = Integer.getInteger("runs", 100);
    private static final int CALLS = 512;

    /** A call's name, how often it comes, and the least and greatest of each of its numbers. */
    private static final Object[][] CALLS_BY_LOT = {
        {"count", 3, 0, 4}, {"feed", 1, 1, 5, 0, 255, 0, 255, 0, 255, 0, 255, 0, 255}, {"text", 1},
        {"force", 6, 0, 5}, {"asks", 10, 0, 2, 0, 9999, 0, 29, 0, 3},
        {"wheel", 12, 0, 3, 0, 5, 0, 9}, {"kick", 6, 0, 3}, {"told", 6, 0, 3, 0, 4},
        {"set", 40, 0, 4, 0, 7, 0, 40}, {"look", 6, 0, 4, 0, 7},
        {"at", 8, 0, 29, 0, 1}, {"roll", 8, 0, 4}, {"straight", 2, 0, 1}, {"hold", 2, 0, 1}, {"exact", 2},
        {"put", 4, 1, 40, 0, 1}, {"swap", 3, 0, 1}, {"lay", 3, 0, 1}, {"quick", 4}, {"flutters", 4},
        {"mend", 4, 0, 1}, {"change", 6, 0, 9999}, {"turned", 4},
        {"judge", 4, 0, 3}, {"kinds", 4, 0, 3, 0, 3, 0, 1}, {"which", 2, 0, 3}, {"held", 2, 0, 3, 0, 1},
        {"laws", 4, 0, 3}, {"film", 5, 0, 3, 0, 30},
        {"come", 6, 0, 99}, {"rule", 8, 0, 3, 0, 7, 0, 99}, {"meets", 8, 0, 24, 0, 3}, {"day", 4, 0, 24},
        {"stands", 5, 0, 7}, {"share", 5, 1, 24, 0, 1}, {"best", 4, 0, 24, 0, 1}, {"first", 4, 0, 24, 0, 1},
        {"drawn", 4, 0, 99999, 0, 1}, {"odds", 3, 0, 99999, 1, 30, 0, 1}, {"image", 1}, {"back", 1},
        {"sheet", 4, 0, 3, -1, 2, 0, 40}, {"cell", 10, 0, 3, 0, 39, -300, 300},
        {"copy", 6, 0, 3, 0, 10, 0, 3, 0, 10, 0, 10}, {"loadsBy", 6, 0, 3, 0, 2, 0, 10, 0, 20},
        {"taken", 6, 0, 11, 0, 6}
    };
    private static final int[] EDGES = {Integer.MIN_VALUE, -1, 0, 1, Integer.MAX_VALUE, 1 << 30, -2};

    private final Random lots;
    private final PullsToTheLeft real = new PullsToTheLeft();
    private final PlainModel plain = new PlainModel();
    private final List<String> told = new ArrayList<>();

    private AgainstModelTest(int run) {
        lots = new Random(run);
    }

    public static void main(String[] args) throws Exception {
        List<Object[]> bag = new ArrayList<>();
        for (Object[] row : CALLS_BY_LOT) {
            for (int i = 0; i < (Integer) row[1]; i++) bag.add(row);
        }
        for (int run = 0; run < RUNS; run++) {
            if (!new AgainstModelTest(run).go(bag)) System.exit(1);
        }
        System.out.println(RUNS + " runs by lot as the plain model answers them");
    }

    private boolean go(List<Object[]> bag) throws Exception {
        while (told.size() < CALLS) {
            if (!goOn(bag)) return false;
        }
        return true;
    }

    private boolean goOn(List<Object[]> bag) throws Exception {
        switch (lots.nextInt(150)) {
            case 0: case 1: case 2: return feedText();
            case 3: case 4: return guessFilm();
            case 5: return widen();
            case 6: return loadByPairs();
            case 7: return smooth();
            default: break;
        }
        Object[] row = bag.get(lots.nextInt(bag.size()));
        int[] numbers = new int[row.length / 2 - 1];
        for (int i = 0; i < numbers.length; i++) {
            numbers[i] = number((Integer) row[2 + 2 * i], (Integer) row[3 + 2 * i]);
        }
        return sameAnswer((String) row[0], numbers);
    }

    private int number(int least, int most) {
        int lot = lots.nextInt(100);
        if (lot == 0) return EDGES[lots.nextInt(EDGES.length)];
        if (lot == 1) return least - 1;
        if (lot == 2) return most + 1;
        if (lot < 8) return lots.nextBoolean() ? least : most;
        // Small numbers are in reach of more calls than great ones.
        if (lot < 40) return least + lots.nextInt(Math.min(10, most - least + 1));
        return least + lots.nextInt(most - least + 1);
    }

    private boolean feedText() throws Exception {
        StringBuilder text = new StringBuilder();
        for (String part : new String[] {"drags", "holds", "bumps"}) {
            text.append(part).append(blank()).append(' ').append(either(0)).append(blank()).append(';');
            if (lots.nextBoolean()) text.append(blank());
        }
        for (int i = lots.nextInt(10) - 7; i > 0; i--) spoil(text);
        if (text.length() > 160 && lots.nextInt(4) > 0) text.setLength(0);
        if (lots.nextInt(8) > 0 && !sameAnswer("text")) return false;
        for (int i = 0; i < text.length(); i += 5) {
            int n = Math.min(5, text.length() - i);
            int[] six = {n, 0, 0, 0, 0, 0};
            for (int k = 0; k < n; k++) six[k + 1] = text.charAt(i + k);
            if (!sameAnswer("feed", six)) return false;
        }
        return sameAnswer("text") && sameAnswer("force", number(0, 3));
    }

    private void spoil(StringBuilder text) {
        String[] bits = {"(", ")", "not ", "-", "<", "=", "12345", "x", " or", " and ", "drags", ";", "?", "\t", "\n", "load", "7", "A"};
        if (text.length() == 0) return;
        int place = lots.nextInt(text.length());
        if (lots.nextInt(3) == 0) text.deleteCharAt(place);
        else if (lots.nextInt(6) == 0) text.setLength(place);
        else text.insert(place, bits[lots.nextInt(bits.length)]);
    }

    private String blank() {
        return lots.nextInt(3) > 0 ? "" : lots.nextBoolean() ? " " : "\n";
    }

    private String either(int depth) {
        String s = both(depth);
        while (lots.nextInt(10) == 0) s += " or " + both(depth);
        return s;
    }

    private String both(int depth) {
        String s = denied(depth);
        while (lots.nextInt(10) == 0) s += " and " + denied(depth);
        return s;
    }

    private String denied(int depth) {
        if (lots.nextInt(10) == 0) return "not " + denied(depth + 1);
        String s = sum(depth);
        if (lots.nextInt(6) == 0) s += blank() + (lots.nextBoolean() ? "<" : "=") + blank() + sum(depth);
        return s;
    }

    private String sum(int depth) {
        String s = term(depth);
        while (lots.nextInt(3) == 0) s += blank() + (lots.nextBoolean() ? "+" : "-") + blank() + term(depth);
        return s;
    }

    private String term(int depth) {
        String s = one(depth);
        while (lots.nextInt(4) == 0) s += blank() + "*" + blank() + one(depth);
        return s;
    }

    private String one(int depth) {
        String[] names = {"load", "hand", "pace", "tenth", "more", "wheel"};
        int lot = lots.nextInt(12);
        if (lot < 4) return "" + (lots.nextInt(8) == 0 ? lots.nextInt(10000) : lots.nextInt(12));
        if (lot < 8 || depth > 6) return names[lots.nextInt(6)];
        if (lot < 9) return "-" + one(depth + 1);
        return "(" + either(depth + 1) + ")";
    }

    /** In a wide aisle, and only there, much of what is asked is neither 0 nor the bound. */
    private boolean widen() throws Exception {
        int least = 1 + lots.nextInt(99);
        for (int t = 0; t < 30; t++) {
            if (!sameAnswer("set", 4, t, least + lots.nextInt(100 - least))) return false;
        }
        return sameAnswer("set", 3, 0, 1 + lots.nextInt(3));
    }

    /** All alike but the hands, so that it bumps by some lots, and not by others. */
    private boolean smooth() throws Exception {
        for (int p = 0; p < 8; p++) {
            if (!sameAnswer("set", 0, p, lots.nextInt(6) == 0 ? 1 : 0)) return false;
        }
        for (int w = 0; w < 4; w++) {
            if (!sameAnswer("wheel", w, lots.nextInt(6) == 0 ? lots.nextInt(6) : 0, lots.nextInt(2))) return false;
        }
        int hand = lots.nextInt(10);
        return sameAnswer("force", 0) && sameAnswer("set", 1, 0, hand) && sameAnswer("set", 2, 0, hand)
                && sameAnswer("odds", lots.nextInt(100000), 1 + lots.nextInt(30), 0)
                && sameAnswer("odds", lots.nextInt(100000), 1 + lots.nextInt(30), 1)
                && sameAnswer("drawn", lots.nextInt(100000), 0) && sameAnswer("quick") && sameAnswer("exact")
                && sameAnswer("straight", 0) && sameAnswer("hold", 0);
    }

    private boolean loadByPairs() throws Exception {
        int s = lots.nextInt(4), sort = lots.nextInt(3), n = lots.nextInt(12);
        if (!sameAnswer("sheet", s, sort, n)) return false;
        for (int i = 0; i < n; i++) {
            int v = i % 2 == 0 ? lots.nextInt(10) - 1 : lots.nextInt(44) - 1;
            if (lots.nextInt(5) == 0) v += lots.nextBoolean() ? 256 : 65536;
            if (!sameAnswer("cell", s, i, v)) return false;
        }
        if (!sameAnswer("loadsBy", s, sort, lots.nextInt(3), lots.nextInt(n / 2 + 2))) return false;
        for (int p = 0; p < 8; p++) {
            if (!sameAnswer("look", 0, p)) return false;
        }
        return true;
    }

    /** A film truly made, one thing changed a little, and all the questions about that film. */
    private boolean guessFilm() throws Exception {
        int s = lots.nextInt(4);
        if (!sameAnswer("film", s, lots.nextInt(31))) return false;
        if (lots.nextInt(3) == 0 && !sameAnswer("wheel", lots.nextInt(4), lots.nextInt(6), lots.nextInt(10))) return false;
        if (lots.nextInt(3) == 0 && !sameAnswer("set", 1 + lots.nextInt(2), 0, lots.nextInt(10))) return false;
        if (lots.nextInt(3) == 0 && !sameAnswer("cell", s, lots.nextInt(30), lots.nextInt(40) - 20)) return false;
        return sameAnswer("judge", s) && sameAnswer("kinds", s, lots.nextInt(4), 0)
                && sameAnswer("kinds", s, lots.nextInt(4), 1) && sameAnswer("which", s)
                && sameAnswer("held", s, 0) && sameAnswer("held", s, 1) && sameAnswer("laws", s);
    }

    private boolean sameAnswer(String call, int... numbers) throws Exception {
        Class<?>[] types = new Class<?>[numbers.length];
        Object[] values = new Object[numbers.length];
        for (int i = 0; i < numbers.length; i++) {
            types[i] = int.class;
            values[i] = numbers[i];
        }
        String asked = call + Arrays.toString(numbers);
        Object want = answer(PlainModel.class, plain, call, types, values);
        Object got = answer(PullsToTheLeft.class, real, call, types, values);
        told.add(asked + " " + want);
        if (want.equals(got)) return true;
        told.forEach(System.out::println);
        System.out.println(asked + " answered " + got + ", due is " + want);
        return false;
    }

    private static Object answer(Class<?> type, Object of, String call, Class<?>[] types, Object[] values) throws Exception {
        Method m = type.getDeclaredMethod(call, types);
        try {
            return m.invoke(of, values);
        } catch (InvocationTargetException e) {
            e.getCause().printStackTrace(System.out);
            return "it threw " + e.getCause();
        }
    }
}
