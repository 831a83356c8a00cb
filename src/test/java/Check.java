/** Counts answers that are not as due, and ends a test by them. */
final class Check {
    private final String test;
    private int asked;
    private int wrong;

    Check(String test) {
        this.test = test;
    }

    void due(String call, long got, long want) {
        asked++;
        if (got != want) {
            wrong++;
            if (wrong <= 40) {
                System.out.println(test + ": " + call + " answered " + got + ", due is " + want);
            }
        }
    }

    void holds(String what, boolean is) {
        due(what, is ? 1 : 0, 1);
    }

    void end() {
        System.out.println(test + ": " + asked + " asked, " + wrong + " wrong");
        if (wrong != 0 || asked == 0) {
            System.exit(1);
        }
    }

    /** A new object that has been told a text. */
    static ProofFine told(String text) {
        ProofFine x = new ProofFine();
        tell(x, text);
        return x;
    }

    static int tell(ProofFine x, String text) {
        for (char c : text.toCharArray()) {
            if (x.feed(c) < 0) {
                throw new IllegalStateException("the text is too long: " + text);
            }
        }
        return x.text();
    }
}
