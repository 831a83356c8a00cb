/** Counts answers that are not as due, and ends a test by them. */
final class Check {
    /** A call that has not ended after so long is taken to have no end. */
    private static final long LONGEST_MILLIS = 120_000;

    private final String test;
    private volatile int asked;
    private int wrong;

    Check(String test) {
        this.test = test;
        Thread watcher = new Thread(this::waitForNoEnd);
        watcher.setDaemon(true);
        watcher.start();
    }

    private void waitForNoEnd() {
        int before = -1;
        while (before != asked) {
            before = asked;
            try {
                Thread.sleep(LONGEST_MILLIS);
            } catch (InterruptedException e) {
                return;
            }
        }
        System.out.println(test + ": the call behind answer " + before + " does not end");
        Runtime.getRuntime().halt(1);
    }

    void due(String call, long got, long want) {
        asked = asked + 1;
        if (got != want) {
            wrong++;
            if (wrong <= 40) {
                System.out.println(test + ": " + call + " answered " + got + ", due is " + want);
            }
        }
    }

    void holds(String what, boolean is) {
        due(what, is ? 1 : 0, 1);
    }

    void end() {
        System.out.println(test + ": " + asked + " asked, " + wrong + " wrong");
        if (wrong != 0 || asked == 0) {
            System.exit(1);
        }
    }

    /** A new object that has been told a text. */
    static ProofFine told(String text) {
        ProofFine x = new ProofFine();
        tell(x, text);
        return x;
    }

    static int tell(ProofFine x, String text) {
        for (char c : text.toCharArray()) {
            if (x.feed(c) < 0) {
                throw new IllegalStateException("the text is too long: " + text);
            }
        }
        return x.text();
    }
}
