/**
 * Runs the test that is named and ends it with exit code 1 if it takes far too long, so that a call
 * that doesn't end is a failure and not a script that hangs.
 */
public final class Guard {
    private static final long LONG_MILLISECONDS = 120_000;

    private Guard() {
    }

    public static void main(String[] args) throws ReflectiveOperationException {
        Thread watch = new Thread(() -> haltLater(args[0]));
        watch.setDaemon(true);
        watch.start();
        Class<?> test = Class.forName(args[0]);
        test.getMethod("main", String[].class).invoke(null, (Object) new String[0]);
    }

    private static void haltLater(String test) {
        try {
            Thread.sleep(LONG_MILLISECONDS);
        } catch (InterruptedException unexpected) {
            return;
        }
        System.out.println(test + " did not end: does a call go on for ever?");
        System.out.flush();
        Runtime.getRuntime().halt(1);
    }
}
