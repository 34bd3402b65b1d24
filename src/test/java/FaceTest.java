import java.lang.reflect.Constructor;
import java.lang.reflect.Field;
import java.lang.reflect.Method;
import java.lang.reflect.Modifier;
import java.util.Set;
import java.util.TreeSet;

/** The public face is the document's, no less and no more. */
public final class FaceTest {
    private static final String[] FACE = {
        "int count(int)", "int feed(int,int,int,int,int,int)", "int text()", "int force(int)",
        "int asks(int,int,int,int)", "int wheel(int,int,int)", "int kick(int)", "int told(int,int)",
        "int set(int,int,int)", "int look(int,int)", "int at(int,int)", "int roll(int)",
        "int straight(int)", "int hold(int)", "int exact()", "int put(int,int)", "int swap(int)",
        "long lay(int)", "int quick()", "int flutters()", "int mend(int)", "int change(int)",
        "int turned()", "int judge(int)", "int kinds(int,int,int)", "int which(int)",
        "int held(int,int)", "int laws(int)", "int film(int,int)", "int come(int)",
        "int rule(int,int,int)", "int meets(int,int)", "int day(int)", "int stands(int)",
        "long share(int,int)", "int best(int,int)", "int first(int,int)", "int drawn(int,int)",
        "long odds(int,int,int)", "int image()", "int back()", "int sheet(int,int,int)",
        "int cell(int,int,int)", "int copy(int,int,int,int,int)", "int loadsBy(int,int,int,int)",
        "int taken(int,int)"
    };
    private static final String[] CONSTANTS = {"int NONE", "int BAD", "int STATE", "int FULL", "long NO"};

    public static void main(String[] args) {
        Due due = new Due();
        Class<?> type = PullsToTheLeft.class;
        due.same("public and final", Modifier.PUBLIC | Modifier.FINAL, type.getModifiers());
        due.same("methods", sorted("public", FACE), methods(type));
        due.same("constants", sorted("public static final", CONSTANTS), constants(type));
        due.same("constructors", "[public PullsToTheLeft()]", constructors(type));
        due.same("NONE", -1, PullsToTheLeft.NONE);
        due.same("BAD", -2, PullsToTheLeft.BAD);
        due.same("STATE", -3, PullsToTheLeft.STATE);
        due.same("FULL", -4, PullsToTheLeft.FULL);
        due.same("NO", -4611686018427387904L, PullsToTheLeft.NO);
        due.end();
    }

    private static String sorted(String modifiers, String[] all) {
        Set<String> rows = new TreeSet<>();
        for (String row : all) rows.add(modifiers + " " + row);
        return rows.toString();
    }

    private static String methods(Class<?> type) {
        Set<String> found = new TreeSet<>();
        for (Method m : type.getDeclaredMethods()) {
            if (Modifier.isPrivate(m.getModifiers())) continue;
            StringBuilder row = new StringBuilder(Modifier.toString(m.getModifiers()));
            row.append(' ').append(m.getReturnType()).append(' ').append(m.getName()).append('(');
            for (Class<?> p : m.getParameterTypes()) {
                if (row.charAt(row.length() - 1) != '(') row.append(',');
                row.append(p);
            }
            found.add(row + ")");
        }
        return found.toString();
    }

    private static String constants(Class<?> type) {
        Set<String> found = new TreeSet<>();
        for (Field f : type.getDeclaredFields()) {
            if (Modifier.isPrivate(f.getModifiers())) continue;
            found.add(Modifier.toString(f.getModifiers()) + " " + f.getType() + " " + f.getName());
        }
        return found.toString();
    }

    private static String constructors(Class<?> type) {
        Set<String> found = new TreeSet<>();
        for (Constructor<?> c : type.getDeclaredConstructors()) found.add(c.toString());
        return found.toString();
    }
}
