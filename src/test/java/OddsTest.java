/** Promises 25, 26 and 32: mean, luck, drift. */
public final class OddsTest {
    private static final Check CHECK = new Check("OddsTest");
    private static final int BAD = ProofFine.BAD, STATE = ProofFine.STATE;

    public static void main(String[] args) {
        mean();
        luck();
        bounds();
        drift();
        CHECK.end();
    }

    private static void fraction(String what, long above, long below, long wantAbove, long wantBelow) {
        CHECK.due(what + ", above", above, wantAbove);
        CHECK.due(what + ", below", below, wantBelow);
    }

    private static void mean(ProofFine x, int v, int n, long above, long below) {
        fraction("mean(" + v + ", " + n + ")", x.mean(v, n, 0), x.mean(v, n, 1), above, below);
    }

    private static void luck(ProofFine x, int v, int b, int n, long above, long below) {
        fraction("luck(" + v + ", " + b + ", " + n + ")", x.luck(v, b, n, 0), x.luck(v, b, n, 1), above, below);
    }

    private static void mean() {
        ProofFine x = Check.told("village 60 0;plain 0 2 1;");
        mean(x, 3, 1, 9, 2);
        mean(x, 0, 1, 0, 1);
        mean(x, 10, 1, 15, 1);
        mean(x, 3, 0, 0, 1);
        x.find(3, 0, 4, 2);
        x.find(1, 0, 3, 1);
        // the mixed one stays mixed; the river one costs 10 as a mixed one
        mean(x, 1, 3, 5, 2);
        mean(x, 1, 2, 3, 2);
        mean(x, 5, 3, 25, 2);
        CHECK.due("KINDS stay", x.body(0, 0), 0);
        x.nights(1);
        // what lies no more is not drawn
        mean(x, 5, 3, 5, 1);
        mean(new ProofFine(), 5, 3, 0, 1);
        // where MEANS are for one alone: 15 if one or both are mixed
        x = Check.told("village 15 0;plain 0 2 1;plain 0 2 1;round 9;");
        mean(x, 5, 5, 45, 4);
        mean(x, 1, 5, 57, 20);
    }

    private static void luck() {
        ProofFine x = Check.told("village 10 0;plain 0 2 1;round 1;");
        luck(x, 3, 0, 1, 3, 10);
        luck(x, 4, 0, 1, 2, 5);
        luck(x, 0, 0, 1, 0, 1);
        luck(x, 10, 0, 1, 1, 1);
        luck(x, 10, 0, 0, 0, 1);
        mean(x, 3, 1, 3, 1);
        x.find(3, 0, 0, 0);
        x.nights(1);
        CHECK.due("body 0 is proved", x.body(0, 4), 1);
        CHECK.due("body 1 is fined", x.body(1, 4), 2);
        luck(x, 5, 0, 3, 0, 1);
        luck(x, 5, 1, 3, 1, 1);
        luck(x, 5, 1, 0, 1, 1);
        x = Check.told("village 15 0;plain 0 2 1;plain 0 2 1;round 5;");
        // the second is fined if both are mixed
        luck(x, 5, 1, 5, 1, 4);
        luck(x, 3, 1, 5, 9, 100);
        luck(x, 3, 0, 5, 0, 1);
        x = Check.told("village 0 0;plain 0 2 1;plain 0 2 1;plain 0 2 1;plain 0 2 1;plain 0 2 1;plain 0 2 1;round 1;");
        mean(x, 7, 1, 0, 1);
        // all six are in it: only the first is taken in one night
        luck(x, 7, 0, 1, 7, 10);
        luck(x, 7, 5, 1, 1, 1);
    }

    private static void bounds() {
        ProofFine x = Check.told("village 60 0;plain 0 2 1;");
        CHECK.due("mean(-1, 0, 0)", x.mean(-1, 0, 0), BAD);
        CHECK.due("mean(11, 0, 0)", x.mean(11, 0, 0), BAD);
        CHECK.due("mean(0, -1, 0)", x.mean(0, -1, 0), BAD);
        CHECK.due("mean(0, 21, 0)", x.mean(0, 21, 0), BAD);
        CHECK.due("mean(0, 20, 1)", x.mean(0, 20, 1), 1);
        CHECK.due("mean(0, 0, -1)", x.mean(0, 0, -1), BAD);
        CHECK.due("mean(0, 0, 2)", x.mean(0, 0, 2), BAD);
        CHECK.due("luck(-1, 0, 0, 0)", x.luck(-1, 0, 0, 0), BAD);
        CHECK.due("luck(11, 0, 0, 0)", x.luck(11, 0, 0, 0), BAD);
        CHECK.due("luck(0, -1, 0, 0)", x.luck(0, -1, 0, 0), BAD);
        CHECK.due("luck(0, 1, 0, 0)", x.luck(0, 1, 0, 0), BAD);
        CHECK.due("luck(0, -4, 0, 0)", x.luck(0, -4, 0, 0), BAD);
        CHECK.due("luck(0, 0, -1, 0)", x.luck(0, 0, -1, 0), BAD);
        CHECK.due("luck(0, 0, 21, 0)", x.luck(0, 0, 21, 0), BAD);
        CHECK.due("luck(0, 0, 20, 1)", x.luck(0, 0, 20, 1), 1);
        CHECK.due("luck(0, 0, 0, 2)", x.luck(0, 0, 0, 2), BAD);
        CHECK.due("luck(0, 0, 0, -1)", x.luck(0, 0, 0, -1), BAD);
    }

    /** By seed 1 are got 16838, 5758, 10113, 17515: of two villages, WATCH 4 and 9 of 0, 4 and 9 of 1. */
    private static void drift() {
        ProofFine x = Check.told("village 40 0;village 0 0;plain 1 0 0;round 4;");
        CHECK.due("runs(4, 0)", x.runs(4, 0), 15);
        for (int n = 1; n <= 4; n++) {
            CHECK.due("drift(1, " + n + ", 0)", x.drift(1, n, 0), 0);
            CHECK.due("drift(1, " + n + ", 1)", x.drift(1, n, 1), n < 4 ? 0 : 1);
        }
        CHECK.due("by itself: WATCH", x.village(0, 1), 0);
        CHECK.due("by itself: DAY", x.rule(5), 0);
        x = Check.told("village 0 0;village 40 0;plain 0 0 0;plain 0 0 0;round 4;");
        CHECK.due("drift(1, 1, 0)", x.drift(1, 1, 0), 15);
        CHECK.due("drift(1, 2, 0)", x.drift(1, 2, 0), 30);
        // by seed 0 is got 0 first
        CHECK.due("drift(0, 1, 0)", x.drift(0, 1, 0), 15);
        x.find(0, 0, 0, 0);
        // in the third night WATCH of 1 is 4; in the fourth 9; then the crowner comes to 0, which has nothing
        CHECK.due("drift(1, 4, 0)", x.drift(1, 4, 0), 30);
        CHECK.due("drift(1, 4, 1)", x.drift(1, 4, 1), 4);
        CHECK.due("drift(1, 60, 1)", x.drift(1, 60, 1), 4);
        CHECK.due("drift(1, 0, 0)", x.drift(1, 0, 0), BAD);
        CHECK.due("drift(1, 61, 0)", x.drift(1, 61, 0), BAD);
        CHECK.due("drift(1, 1, 2)", x.drift(1, 1, 2), BAD);
        CHECK.due("drift(1, 1, -1)", x.drift(1, 1, -1), BAD);
        CHECK.due("drift without villages", new ProofFine().drift(1, 1, 0), STATE);
        CHECK.due("drift without villages, BAD first", new ProofFine().drift(1, 0, 0), BAD);
        // fined before counts in the end
        x = Check.told("village 0 0;plain 0 0 0;round 1;");
        x.nights(1);
        CHECK.due("drift(-7, 1, 1)", x.drift(-7, 1, 1), 1);
        CHECK.due("drift(-7, 1, 0)", x.drift(-7, 1, 0), 0);
    }
}
