import java.lang.reflect.InvocationTargetException;
import java.lang.reflect.Method;
import java.util.Arrays;

/** Runs the main method of a test, which has failed if it has not come to its end in time. */
public final class Watched {
    private static final int SECONDS = 300;

    public static void main(String[] args) throws ReflectiveOperationException {
        String name = args[0];
        Thread watch = new Thread(() -> stopLate(name));
        watch.setDaemon(true);
        watch.start();
        Method test = Class.forName(name).getMethod("main", String[].class);
        test.setAccessible(true);
        try {
            test.invoke(null, (Object) Arrays.copyOfRange(args, 1, args.length));
        } catch (InvocationTargetException e) {
            e.getCause().printStackTrace();
            System.exit(1);
        }
    }

    private static void stopLate(String name) {
        try {
            Thread.sleep(SECONDS * 1000L);
        } catch (InterruptedException e) {
            return;
        }
        System.out.println(name + ": not at its end after " + SECONDS + " seconds");
        Runtime.getRuntime().halt(1);
    }
}
