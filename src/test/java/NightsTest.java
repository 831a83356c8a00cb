/** Promises 14 to 17: nights, runs, ahead, settled. */
public final class NightsTest {
    private static final Check CHECK = new Check("NightsTest");
    private static final int BAD = ProofFine.BAD, FULL = ProofFine.FULL, NONE = ProofFine.NONE;

    public static void main(String[] args) {
        carriedAndPaid();
        watched();
        alone();
        crowner();
        days();
        refused();
        CHECK.end();
    }

    private static ProofFine poorAndRich() {
        return Check.told("village 10 1;village 30 0;plain 0 0 0;plain 0 0 0;river 1 3 1;price 5;fine 20;round 2;");
    }

    private static void carriedAndPaid() {
        ProofFine x = poorAndRich();
        int[][] want = {{0, 0, 0, 0, 0}, {15, 1, 0, 1, 0}, {30, 3, 4, 2, 2}, {30, 3, 4, 2, 2}};
        for (int n = 0; n < 4; n++) {
            for (int what = 0; what < 5; what++) {
                CHECK.due("runs(" + n + ", " + what + ")", x.runs(n, what), want[n][what]);
            }
        }
        int[][] spots = {{0, 0, 1}, {1, 0, 1}, {1, 1, 1}, {1, 1, 1}};
        int[][] ways = {{0, 0, 0}, {1, 0, 0}, {1, 1, 2}, {1, 1, 2}};
        for (int n = 0; n < 4; n++) {
            for (int b = 0; b < 3; b++) {
                CHECK.due("ahead(" + b + ", " + n + ", 0)", x.ahead(b, n, 0), spots[n][b]);
                CHECK.due("ahead(" + b + ", " + n + ", 1)", x.ahead(b, n, 1), ways[n][b]);
            }
        }
        CHECK.due("settled(0)", x.settled(0), 1);
        CHECK.due("settled(1)", x.settled(1), 2);
        CHECK.due("settled(2)", x.settled(2), 2);
        CHECK.due("DAY is not changed", x.rule(5), 0);
        CHECK.due("nights(0)", x.nights(0), 0);
        CHECK.due("nights(1)", x.nights(1), 15);
        CHECK.due("DAY", x.rule(5), 1);
        CHECK.due("settled(0): already", x.settled(0), 0);
        CHECK.due("settled(1) then", x.settled(1), 1);
        CHECK.due("runs(1, 0) then", x.runs(1, 0), 15);
        CHECK.due("runs(1, 1) then: those of before too", x.runs(1, 1), 3);
        CHECK.due("runs(1, 3) then: in them alone", x.runs(1, 3), 1);
        CHECK.due("nights(1) again", x.nights(1), 15);
        CHECK.due("who was RUINED", x.rule(9), 2);
        CHECK.due("runs(5, 4): none in them", x.runs(5, 4), 0);
        CHECK.due("runs(5, 2): fined before", x.runs(5, 2), 4);
        CHECK.due("nights(30)", x.nights(30), 0);
        CHECK.due("DAY then", x.rule(5), 32);
        CHECK.due("who was RUINED stays", x.rule(9), 2);
    }

    private static void watched() {
        ProofFine x = Check.told("village 0 0;village 50 2;mixed 0 0 0;price 20;fine 60;round 9;");
        int[] carried = {0, 0, 0, 2, 4, 6};
        for (int n = 0; n < 6; n++) {
            CHECK.due("runs(" + n + ", 3)", x.runs(n, 3), carried[n]);
            CHECK.due("ahead(0, " + n + ", 0): to and fro in a night", x.ahead(0, n, 0), 0);
        }
        CHECK.due("settled(0)", x.settled(0), 9);
        CHECK.due("runs(9, 4)", x.runs(9, 4), 1);
        CHECK.due("runs(9, 0)", x.runs(9, 0), 0);
        x.nights(1);
        CHECK.due("WATCH is less", x.village(1, 1), 1);
        x.nights(1);
        CHECK.due("WATCH is gone", x.village(1, 1), 0);
        CHECK.due("not yet carried", x.body(0, 1), 0);
        x.grant(0, 1, 3);
        x.nights(1);
        CHECK.due("carried, and watched there", x.body(0, 1), 1);
        CHECK.due("WATCH of the first", x.village(0, 1), 2);
    }

    private static void alone() {
        ProofFine x = Check.told("village 50 0;plain 0 0 0;fine 15;round 9;");
        CHECK.due("as dear as FINE", x.runs(8, 0), 0);
        CHECK.due("nobody to carry to", x.runs(8, 3), 0);
        x.grant(0, 1, 3);
        CHECK.due("nights(8)", x.nights(8), 0);
        CHECK.due("its own WATCH stays", x.village(0, 1), 3);
        CHECK.due("nights(1): fined", x.nights(1), 15);
        CHECK.due("its WAY", x.body(0, 4), 2);
        CHECK.due("not RUINED", x.rule(9), 0);
        x = Check.told("village 15 0;plain 0 0 0;fine 16;");
        CHECK.due("as dear as MEANS", x.nights(1), 15);
        CHECK.due("proved", x.body(0, 4), 1);
        CHECK.due("kin are not more", x.body(0, 5), 3);
        x = Check.told("village 14 0;plain 0 0 0;fine 16;round 5;");
        CHECK.due("dearer than MEANS", x.nights(4), 0);
        CHECK.due("lies still", x.body(0, 4), 0);
        x = Check.told("village 0 0;plain 0 2 1;fine 0;");
        CHECK.due("LACKS nothing", x.nights(1), 0);
        CHECK.due("proved for nothing", x.body(0, 4), 1);
        x = Check.told("village 9 0;plain 0 0 0;fine 0;price 0;round 9;");
        x.nights(1);
        CHECK.due("0 is not less than 0", x.body(0, 4), 0);
    }

    private static void crowner() {
        ProofFine x = Check.told("village 50 9;village 99 9;mixed 0 0 0;mixed 0 0 0;mixed 1 0 0;price 20;fine 30;round 1;");
        CHECK.due("two fines, the second ruins", x.runs(1, 0), 50 + 30);
        CHECK.due("all fined", x.runs(1, 2), 7);
        CHECK.due("RUINED", x.runs(1, 4), 1);
        x.grant(0, 0, 60);
        CHECK.due("just enough", x.runs(1, 0), 90);
        CHECK.due("none RUINED", x.runs(1, 4), 0);
        x.set(4, 9);
        x.nights(2);
        x.set(4, 3);
        CHECK.due("ROUND goes by DAY", x.settled(0), 1);
        x.set(4, 4);
        CHECK.due("ROUND 4, DAY 2", x.settled(0), 2);
        x.set(4, 2);
        CHECK.due("ROUND 2, DAY 2", x.settled(0), 2);
    }

    private static void days() {
        ProofFine x = Check.told("village 99 0;");
        for (int i = 1; i <= 33; i++) {
            CHECK.due("nights(30)", x.nights(30), 0);
        }
        CHECK.due("DAY", x.rule(5), 990);
        CHECK.due("nights(10)", x.nights(10), FULL);
        CHECK.due("nights(31)", x.nights(31), BAD);
        CHECK.due("DAY stays", x.rule(5), 990);
        CHECK.due("nights(9)", x.nights(9), 0);
        CHECK.due("nights(1)", x.nights(1), FULL);
        CHECK.due("nights(0)", x.nights(0), 0);
        CHECK.due("DAY 999", x.rule(5), 999);
        x.find(3, 0, 0, 0);
        x.set(2, 20);
        CHECK.due("what would be has no end of days", x.runs(30, 2), 1);
        CHECK.due("settled at DAY 1000", x.settled(0), 1);
    }

    private static void refused() {
        ProofFine x = poorAndRich();
        CHECK.due("nights(-1)", x.nights(-1), BAD);
        CHECK.due("nights(31)", x.nights(31), BAD);
        CHECK.due("runs(-1, 0)", x.runs(-1, 0), BAD);
        CHECK.due("runs(31, 0)", x.runs(31, 0), BAD);
        CHECK.due("runs(30, 0)", x.runs(30, 0), 30);
        CHECK.due("runs(0, 5)", x.runs(0, 5), BAD);
        CHECK.due("runs(0, -1)", x.runs(0, -1), BAD);
        CHECK.due("ahead(3, 0, 0)", x.ahead(3, 0, 0), BAD);
        CHECK.due("ahead(-1, 0, 0)", x.ahead(-1, 0, 0), BAD);
        CHECK.due("ahead(0, -1, 0)", x.ahead(0, -1, 0), BAD);
        CHECK.due("ahead(0, 31, 0)", x.ahead(0, 31, 0), BAD);
        CHECK.due("ahead(0, 30, 1)", x.ahead(0, 30, 1), 1);
        CHECK.due("ahead(0, 0, 2)", x.ahead(0, 0, 2), BAD);
        CHECK.due("ahead(0, 0, -1)", x.ahead(0, 0, -1), BAD);
        CHECK.due("settled(3)", x.settled(3), BAD);
        CHECK.due("settled(-1)", x.settled(-1), BAD);
        CHECK.due("without villages: runs(30, 0)", new ProofFine().runs(30, 0), 0);
        CHECK.due("without villages: nights(30)", new ProofFine().nights(30), 0);
        // ROUND is 9 at most, so none lies for long; NONE is never due
        x.set(4, 9);
        x.set(3, 0);
        CHECK.holds("settled by the crowner at the latest", x.settled(0) == 9 && x.settled(0) != NONE);
    }
}
