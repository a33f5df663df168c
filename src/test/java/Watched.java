import java.lang.reflect.Method;
import java.util.Arrays;

/** Runs a test's main method, and fails it if that does not end: a loop without an end must not hold up .ci/run. */
public final class Watched {
    private static final long MOST_SECONDS = 300;

    public static void main(String[] args) throws Exception {
        Thread watch = new Thread(() -> endLate(args[0]));
        watch.setDaemon(true);
        watch.start();
        Method test = Class.forName(args[0]).getMethod("main", String[].class);
        test.invoke(null, (Object) Arrays.copyOfRange(args, 1, args.length));
    }

    private static void endLate(String name) {
        try {
            Thread.sleep(MOST_SECONDS * 1000);
        } catch (InterruptedException woken) {
            return;
        }
        System.out.println(name + " does not end");
        Runtime.getRuntime().halt(1);
    }
}
