/** Runs the test that is named; where a call in it never ends, that is a failure, not a standstill. */
public final class Watch {
    // A test takes seconds: a machine may be many times slower than that.
    private static final long MOST_MILLISECONDS = 120_000;

    public static void main(String[] args) throws ReflectiveOperationException {
        Thread watch = new Thread(() -> stop(args[0]));
        watch.setDaemon(true);
        watch.start();
        Object none = new String[0];
        Class.forName(args[0]).getMethod("main", String[].class).invoke(null, none);
    }

    private static void stop(String test) {
        try {
            Thread.sleep(MOST_MILLISECONDS);
        } catch (InterruptedException e) {
            return;
        }
        System.out.println(test + " has not ended");
        Runtime.getRuntime().halt(1);
    }
}
