/** Boundaries of promises 25, 26 and 32: mean, luck, drift; fractions. */
public final class OddsEdgesTest {
    private static final Check CHECK = new Check("OddsEdgesTest");
    private static final int BAD = ProofFine.BAD, STATE = ProofFine.STATE;
    private static final Twin RICH = new Twin(CHECK, Lands::rich);
    private static final Twin EMPTY = new Twin(CHECK, ProofFine::new);

    public static void main(String[] args) {
        meanBounds();
        meanOfRich();
        meanOfNothing();
        luckBounds();
        luckOfRich();
        lowestTerms();
        sixThatLie();
        onlyThoseThatLie();
        driftBounds();
        driftWithoutVillages();
        driftGot();
        driftEachNight();
        driftByItself();
        asksAlone();
        CHECK.end();
    }

    /** mean: "v out of ten (0 to 10)", "n NIGHTS (0 to 20): 0, 1. BAD." */
    private static void meanBounds() {
        RICH.bounds("mean(v, 20, 0)", (x, v) -> x.mean(v, 20, 0), 0, 36, 10, 54);
        RICH.bounds("mean(v, 20, 1)", (x, v) -> x.mean(v, 20, 1), 0, 1, 10, 1);
        RICH.bounds("mean(1, n, 0)", (x, n) -> x.mean(1, n, 0), 0, 0, 20, 189);
        RICH.bounds("mean(1, n, 1)", (x, n) -> x.mean(1, n, 1), 0, 1, 20, 5);
        RICH.bounds("mean(1, 20, what)", (x, what) -> x.mean(1, 20, what), 0, 189, 1, 5);
        EMPTY.bounds("mean of nothing", (x, n) -> x.mean(5, n, 1), 0, 1, 20, 1);
    }

    /** Of the rich land body 2 is fined 30 for 18 if it is mixed, body 3 costs 24 for 18, body 4 is mixed. */
    private static void meanOfRich() {
        long[][] want = {{36, 1}, {189, 5}, {198, 5}, {207, 5}, {216, 5}, {45, 1}, {234, 5}, {243, 5}, {252, 5},
            {261, 5}, {54, 1}};
        for (int v = 0; v <= 10; v++) {
            int out = v;
            RICH.answers("mean(" + v + ", 20, 0)", x -> x.mean(out, 20, 0), want[v][0]);
            RICH.answers("mean(" + v + ", 20, 1)", x -> x.mean(out, 20, 1), want[v][1]);
        }
    }

    /** "0 is 0 by 1": no BODY, no NIGHT, no MEANS. */
    private static void meanOfNothing() {
        for (int v = 0; v <= 10; v++) {
            int out = v;
            EMPTY.answers("no BODY: above", x -> x.mean(out, 20, 0), 0);
            EMPTY.answers("no BODY: below", x -> x.mean(out, 20, 1), 1);
            RICH.answers("no NIGHT: above", x -> x.mean(out, 0, 0), 0);
            RICH.answers("no NIGHT: below", x -> x.mean(out, 0, 1), 1);
            ProofFine poor = Check.told("village 0 0;plain 0 0 0;plain 0 2 1;round 1;");
            CHECK.due("no MEANS: above", poor.mean(v, 20, 0), 0);
            CHECK.due("no MEANS: below", poor.mean(v, 20, 1), 1);
        }
    }

    /** luck: "Likewise, that a BODY is fined then: 0, 1. BAD." */
    private static void luckBounds() {
        RICH.bounds("luck(v, 2, 20, 0)", (x, v) -> x.luck(v, 2, 20, 0), 0, 0, 10, 1);
        RICH.bounds("luck(v, 2, 20, 1)", (x, v) -> x.luck(v, 2, 20, 1), 0, 1, 10, 1);
        RICH.bounds("luck(3, b, 20, 0)", (x, b) -> x.luck(3, b, 20, 0), 0, 0, 4, 1);
        RICH.bounds("luck(3, 2, n, 0)", (x, n) -> x.luck(3, 2, n, 0), 0, 0, 20, 3);
        RICH.bounds("luck(3, 2, n, 1)", (x, n) -> x.luck(3, 2, n, 1), 0, 1, 20, 10);
        RICH.bounds("luck(3, 2, 20, what)", (x, what) -> x.luck(3, 2, 20, what), 0, 3, 1, 10);
        EMPTY.bad("luck of none", (x, b) -> x.luck(3, b, 20, 0), 0, -1, 1, -4);
        RICH.bad("luck(3, b, 20, 0), no such BODY", (x, b) -> x.luck(3, b, 20, 0), -4, 5, 6);
    }

    /** Body 0 is proved, 1 fined already; 2 is fined if it is mixed, 3 never, 4 ever. */
    private static void luckOfRich() {
        long[][] want = {{0, 1}, {1, 1}, {3, 10}, {0, 1}, {1, 1}};
        for (int b = 0; b < 5; b++) {
            int who = b;
            RICH.answers("luck(3, " + b + ", 20, 0)", x -> x.luck(3, who, 20, 0), want[b][0]);
            RICH.answers("luck(3, " + b + ", 20, 1)", x -> x.luck(3, who, 20, 1), want[b][1]);
        }
        RICH.answers("fined already, no NIGHT: above", x -> x.luck(3, 1, 0, 0), 1);
        RICH.answers("fined already, no NIGHT: below", x -> x.luck(3, 1, 0, 1), 1);
        RICH.answers("the crowner comes in the second NIGHT", x -> x.luck(3, 4, 1, 0), 0);
        RICH.answers("then it is fined", x -> x.luck(3, 4, 2, 0), 1);
    }

    /** "Fractions are in lowest terms, the denominator above 0". */
    private static void lowestTerms() {
        long[][] want = {{0, 1}, {1, 10}, {1, 5}, {3, 10}, {2, 5}, {1, 2}, {3, 5}, {7, 10}, {4, 5}, {9, 10}, {1, 1}};
        for (int v = 0; v <= 10; v++) {
            int out = v;
            RICH.answers("luck(" + v + ", 2, 20, 0)", x -> x.luck(out, 2, 20, 0), want[v][0]);
            RICH.answers("luck(" + v + ", 2, 20, 1)", x -> x.luck(out, 2, 20, 1), want[v][1]);
        }
    }

    /** Six that lie, of which the first mixed one keeps those behind it from being taken. */
    private static ProofFine six() {
        return Check.told("village 99 0;" + "plain 0 2 1;".repeat(6) + "price 20;fine 60;round 9;");
    }

    private static void sixThatLie() {
        ProofFine x = six();
        CHECK.due("the last is fined if one is mixed: above", x.luck(1, 5, 9, 0), 468559);
        CHECK.due("the last is fined if one is mixed: below", x.luck(1, 5, 9, 1), 1000000);
        CHECK.due("by halves: above", x.luck(5, 5, 9, 0), 63);
        CHECK.due("by halves: below", x.luck(5, 5, 9, 1), 64);
        CHECK.due("the first: above", x.luck(1, 0, 9, 0), 1);
        CHECK.due("the first: below", x.luck(1, 0, 9, 1), 10);
        CHECK.due("ahead of the crowner", x.luck(1, 5, 8, 0), 0);
        // 60 if the last alone is left, 99 if more are
        CHECK.due("mean(1, 9, 0)", x.mean(1, 9, 0), 4408443);
        CHECK.due("mean(1, 9, 1)", x.mean(1, 9, 1), 100000);
        CHECK.due("mean(1, 8, 0)", x.mean(1, 8, 0), 0);
        CHECK.due("mean(0, 9, 0)", x.mean(0, 9, 0), 0);
        CHECK.due("mean(10, 9, 0)", x.mean(10, 9, 0), 99);
        Twin t = new Twin(CHECK, OddsEdgesTest::six);
        t.leaves("mean(1, 20, 0) of six", y -> y.mean(1, 20, 0), 4408443);
        t.leaves("luck(1, 5, 20, 0) of six", y -> y.luck(1, 5, 20, 0), 468559);
    }

    /** mean: "Each BODY that lies is a mixed one .. by itself": what lies no more stays as it is. */
    private static void onlyThoseThatLie() {
        ProofFine x = six();
        x.nights(5);
        CHECK.due("one lies: above", x.luck(1, 5, 4, 0), 1);
        CHECK.due("one lies: below", x.luck(1, 5, 4, 1), 10);
        CHECK.due("one lies: mean", x.mean(1, 4, 0), 6);
        x.nights(1);
        CHECK.due("none lies: above", x.luck(1, 5, 4, 0), 0);
        CHECK.due("none lies: below", x.luck(1, 5, 4, 1), 1);
        CHECK.due("none lies: mean", x.mean(10, 4, 0), 0);
    }

    /** drift: "n NIGHTS (1 to 60)", what 0, 1. "BAD". By seed 0 is got 0, then 21468. */
    private static void driftBounds() {
        RICH.bounds("drift(0, n, 0)", (x, n) -> x.drift(0, n, 0), 1, 18, 60, 36);
        RICH.bounds("drift(0, n, 1)", (x, n) -> x.drift(0, n, 1), 1, 2, 60, 18);
        RICH.bounds("drift(0, 60, what)", (x, what) -> x.drift(0, 60, what), 0, 36, 1, 18);
        RICH.leaves("drift(0, 2, 0)", x -> x.drift(0, 2, 0), 36);
        RICH.leaves("drift(0, 2, 1)", x -> x.drift(0, 2, 1), 18);
    }

    /** drift: "STATE: there are no VILLAGES"; BAD is first. */
    private static void driftWithoutVillages() {
        EMPTY.bounds("no VILLAGES: drift(0, n, 0)", (x, n) -> x.drift(0, n, 0), 1, STATE, 60, STATE);
        EMPTY.bounds("no VILLAGES: drift(0, 1, what)", (x, what) -> x.drift(0, 1, what), 0, STATE, 1, STATE);
        EMPTY.leaves("no VILLAGES: drift(7, 1, 0)", x -> x.drift(7, 1, 0), STATE);
        ProofFine x = Check.told("village 9 0;");
        CHECK.due("one VILLAGE", x.drift(0, 1, 0), 0);
    }

    /** The seed by which, ahead of the first NIGHT, the seed becomes what is wanted. */
    private static int seedFor(int wanted) {
        int inverse = 1;
        for (int i = 0; i < 5; i++) {
            inverse *= 2 - 1103515245 * inverse;
        }
        return (wanted - 12345) * inverse;
    }

    /**
     * drift: "bits 16 to 30 of it are got: the VILLAGE got modulo VILLAGES has WATCH got by 8 (down)
     * modulo 10": 7 and 8, 79 and 80, the greatest; bits below 16 and bit 31 are not in it.
     */
    private static void driftGot() {
        // to 1 one is carried only if its WATCH becomes 0; it pays 15 for kin
        String toOne = "village 0 5;village 20 5;plain 0 0 0;round 9;";
        // to 0 likewise, which has had its turn and has its 20 taken by the crowner
        String toZero = "village 20 5;village 0 5;plain 1 0 0;round 1;";
        int[] got = {7, 8, 79, 80, 71, 72, 87, 88, 5, 6, 32767, 32766};
        int[] one = {15, 0, 0, 0, 0, 0, 15, 0, 15, 0, 0, 0};
        int[] zero = {0, 0, 0, 20, 0, 0, 0, 0, 0, 20, 0, 0};
        for (int i = 0; i < got.length; i++) {
            for (int rest : new int[] {0, 0xffff, 0x80000000, 0x8000ffff}) {
                int seed = seedFor(got[i] << 16 | rest);
                CHECK.due("got " + got[i] + ", to 1", Check.told(toOne).drift(seed, 1, 0), one[i]);
                CHECK.due("got " + got[i] + ", to 0", Check.told(toZero).drift(seed, 1, 0), zero[i]);
                CHECK.due("got " + got[i] + ", fined", Check.told(toZero).drift(seed, 1, 1), 1);
            }
        }
        // of four VILLAGES the last is got by 3 and by 7, of three the last by 2 and by 5
        String four = "village 20 5;village 20 5;village 0 5;village 20 5;plain 2 0 0;round 9;";
        String three = "village 20 5;village 0 5;village 20 5;plain 1 0 0;round 9;";
        int[] few = {0, 1, 2, 3, 4, 5, 6, 7};
        for (int g : few) {
            int seed = seedFor(g << 16);
            CHECK.due("of four, got " + g, Check.told(four).drift(seed, 1, 0), g % 4 == 3 ? 15 : 0);
            CHECK.due("of three, got " + g, Check.told(three).drift(seed, 1, 0), g % 3 == 2 ? 15 : 0);
        }
    }

    /** drift: "ahead of each the seed becomes ..": of two, WATCH of 0 becomes 0, 3, 8, that of 1 4, that of 0 7. */
    private static void driftEachNight() {
        ProofFine x = Check.told("village 0 9;village 20 2;plain 0 0 0;round 9;");
        // WATCH of 1: 2, then 1, then 0, then 4, which three NIGHTS run down to 1
        CHECK.due("as it would be", x.runs(3, 0), 15);
        CHECK.due("by the seed, 2 NIGHTS", x.drift(0, 2, 0), 0);
        CHECK.due("by the seed, 3 NIGHTS", x.drift(0, 3, 0), 15);
        x.grant(1, 1, 3);
        CHECK.due("too late by the seed, 4 NIGHTS", x.drift(0, 4, 0), 0);
        CHECK.due("as it would be, 4 NIGHTS", x.runs(4, 0), 15);
        CHECK.due("seeds that differ in bit 31 alone", x.drift(Integer.MIN_VALUE, 4, 0), x.drift(0, 4, 0));
        CHECK.due("the greatest seed and -1", x.drift(Integer.MAX_VALUE, 9, 1), x.drift(-1, 9, 1));
    }

    /** drift: "By itself", and without an end of days. */
    private static void driftByItself() {
        for (int seed : new int[] {0, 1, -1, 7, Integer.MIN_VALUE, Integer.MAX_VALUE}) {
            for (int n : new int[] {1, 2, 59, 60}) {
                RICH.leaves("drift(" + seed + ", " + n + ", 0)", x -> x.drift(seed, n, 0));
                RICH.leaves("drift(" + seed + ", " + n + ", 1)", x -> x.drift(seed, n, 1));
            }
        }
        ProofFine x = Check.told("village 60 0;");
        for (int i = 0; i < 33; i++) {
            x.nights(30);
        }
        x.nights(9);
        x.find(3, 0, 0, 0);
        x.set(2, 20);
        CHECK.due("DAY 999: PAID", x.drift(0, 60, 0), 46);
        CHECK.due("DAY 999: fined", x.drift(0, 1, 1), 1);
        CHECK.due("DAY stays", x.rule(5), 999);
    }

    private static void asksAlone() {
        for (int v : new int[] {0, 1, 9, 10}) {
            for (int n : new int[] {0, 1, 20}) {
                RICH.leaves("mean(" + v + ", " + n + ", 0)", x -> x.mean(v, n, 0));
                RICH.leaves("luck(" + v + ", 4, " + n + ", 1)", x -> x.luck(v, 4, n, 1));
            }
        }
        RICH.leaves("mean(11, 0, 0)", x -> x.mean(11, 0, 0), BAD);
    }
}
