import java.lang.reflect.Method;

/** Runs the test that is named, and ends it as failed if it doesn't come to its end: a call that goes on for ever fails, too. */
public final class Watch {
    private static final int SECONDS = 300;

    private Watch() {
    }

    public static void main(String[] args) throws ReflectiveOperationException {
        Thread watch = new Thread(Watch::endLate);
        watch.setDaemon(true);
        watch.start();
        Method test = Class.forName(args[0]).getMethod("main", String[].class);
        test.setAccessible(true);
        test.invoke(null, (Object) new String[0]);
    }

    private static void endLate() {
        try {
            Thread.sleep(SECONDS * 1000L);
        } catch (InterruptedException early) {
            return;
        }
        System.out.println("not at its end after " + SECONDS + " seconds");
        Runtime.getRuntime().halt(1);
    }
}
