/** A call that does not end breaks its promise as well: the test fails then, too. */
final class Watch {
    // Far above what a test takes, also on a slow machine.
    private static final long LIMIT = 300000;

    private Watch() { }

    static void over(String test) {
        Thread watch = new Thread(() -> {
            try {
                Thread.sleep(LIMIT);
            } catch (InterruptedException woken) {
                return;
            }
            System.out.println(test + ": a call does not end");
            Runtime.getRuntime().halt(1);
        });
        watch.setDaemon(true);
        watch.start();
    }
}
