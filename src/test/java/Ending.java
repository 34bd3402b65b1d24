import java.lang.reflect.InvocationTargetException;
import java.lang.reflect.Method;

/** Runs a test's main method, and fails it if that does not end: no call may fail to end. */
public final class Ending {
    private static final int MOST_SECONDS = Integer.getInteger("seconds", 600);

    private Ending() { }

    public static void main(String[] args) throws Throwable {
        Thread watch = new Thread(() -> haltLater(args[0]));
        watch.setDaemon(true);
        watch.start();
        Method main = Class.forName(args[0]).getDeclaredMethod("main", String[].class);
        main.setAccessible(true);
        try {
            main.invoke(null, (Object) new String[0]);
        } catch (InvocationTargetException e) {
            throw e.getCause();
        }
    }

    private static void haltLater(String test) {
        try {
            Thread.sleep(1000L * MOST_SECONDS);
        } catch (InterruptedException e) {
            return;
        }
        System.out.println(test + " has not ended in " + MOST_SECONDS + " seconds");
        Runtime.getRuntime().halt(1);
    }
}
