/** Promises 6 to 13: rule, village, body, grant, alter, set, find, hire. */
public final class StateTest {
    private static final Check CHECK = new Check("StateTest");
    private static final int BAD = ProofFine.BAD, STATE = ProofFine.STATE, FULL = ProofFine.FULL;

    public static void main(String[] args) {
        rules();
        villages();
        bodies();
        needs();
        grants();
        alters();
        sets();
        finds();
        hires();
        CHECK.end();
    }

    /** Body 0 will be proved, body 1 fined with its village ruined, body 2 comes later. */
    private static ProofFine mixedWays() {
        ProofFine x = Check.told("village 30 9;village 20 9;plain 0 2 1;mixed 1 0 0;fine 25;round 2;price 7;");
        x.nights(2);
        x.find(1, 0, 9, 8);
        return x;
    }

    private static void rules() {
        ProofFine x = mixedWays();
        int[] want = {2, 3, 7, 25, 2, 2, 4, 1, 2, 2};
        for (int what = 0; what < want.length; what++) {
            CHECK.due("rule(" + what + ")", x.rule(what), want[what]);
        }
        CHECK.due("rule(-1)", x.rule(-1), BAD);
        CHECK.due("rule(10)", x.rule(10), BAD);
    }

    private static void villages() {
        ProofFine x = mixedWays();
        CHECK.due("village(0, 0)", x.village(0, 0), 30);
        // v1 was refused by the watch of v0 twice
        CHECK.due("village(0, 1)", x.village(0, 1), 7);
        CHECK.due("village(0, 2): one proved, one lies", x.village(0, 2), 4);
        CHECK.due("village(1, 0)", x.village(1, 0), 0);
        CHECK.due("village(1, 1)", x.village(1, 1), 9);
        CHECK.due("village(1, 2): one is fined", x.village(1, 2), 0);
        CHECK.due("village(2, 0)", x.village(2, 0), BAD);
        CHECK.due("village(-1, 0)", x.village(-1, 0), BAD);
        CHECK.due("village(0, 3)", x.village(0, 3), BAD);
        CHECK.due("village(0, -1)", x.village(0, -1), BAD);
    }

    private static void bodies() {
        ProofFine x = mixedWays();
        int[][] want = {{0, 0, 2, 1, 1, 0}, {3, 1, 0, 0, 2, 6}, {1, 0, 9, 8, 0, 0}};
        for (int b = 0; b < 3; b++) {
            for (int what = 0; what < 6; what++) {
                CHECK.due("body(" + b + ", " + what + ")", x.body(b, what), want[b][what]);
            }
        }
        CHECK.due("body(3, 0)", x.body(3, 0), BAD);
        CHECK.due("body(-1, 0)", x.body(-1, 0), BAD);
        CHECK.due("body(0, 6)", x.body(0, 6), BAD);
        CHECK.due("body(0, -1)", x.body(0, -1), BAD);
    }

    private static void needs() {
        int[][] needs = {{2, 1}, {3, 1}, {3, 0}, {4, 2}};
        for (int kind = 0; kind < 4; kind++) {
            for (int f = 0; f <= 9; f++) {
                for (int m = 0; m <= 9; m++) {
                    ProofFine x = Check.told("village 0 0;");
                    x.find(kind, 0, f, m);
                    int lacks = Math.max(0, needs[kind][0] - f) + Math.max(0, needs[kind][1] - m);
                    CHECK.due("LACKS of " + kind + " with " + f + ", " + m, x.body(0, 5), lacks);
                }
            }
        }
    }

    private static void grants() {
        ProofFine x = Check.told("village 30 9;village 20 1;");
        CHECK.due("grant(1, 0, 99)", x.grant(1, 0, 99), 20);
        CHECK.due("grant(1, 0, 0)", x.grant(1, 0, 0), 99);
        CHECK.due("grant(1, 1, 9)", x.grant(1, 1, 9), 1);
        CHECK.due("grant(1, 1, 0)", x.grant(1, 1, 0), 9);
        CHECK.due("grant(1, 0, 100)", x.grant(1, 0, 100), BAD);
        CHECK.due("grant(1, 0, -1)", x.grant(1, 0, -1), BAD);
        CHECK.due("grant(1, 1, 10)", x.grant(1, 1, 10), BAD);
        CHECK.due("grant(1, 1, -1)", x.grant(1, 1, -1), BAD);
        CHECK.due("grant(1, 2, 1)", x.grant(1, 2, 1), BAD);
        CHECK.due("grant(1, -1, 1)", x.grant(1, -1, 1), BAD);
        CHECK.due("grant(2, 0, 1)", x.grant(2, 0, 1), BAD);
        CHECK.due("grant(-1, 0, 1)", x.grant(-1, 0, 1), BAD);
        CHECK.due("MEANS of the other", x.village(0, 0), 30);
        CHECK.due("WATCH of the other", x.village(0, 1), 9);
        CHECK.due("MEANS behind all", x.village(1, 0), 0);
        CHECK.due("WATCH behind all", x.village(1, 1), 0);
    }

    private static void alters() {
        ProofFine x = mixedWays();
        CHECK.due("alter(2, 0, 3)", x.alter(2, 0, 3), 1);
        CHECK.due("alter(2, 1, 1)", x.alter(2, 1, 1), 0);
        CHECK.due("alter(2, 2, 0)", x.alter(2, 2, 0), 9);
        CHECK.due("alter(2, 3, 9)", x.alter(2, 3, 9), 8);
        int[] want = {3, 1, 0, 9, 0, 4};
        for (int what = 0; what < 6; what++) {
            CHECK.due("altered: body(2, " + what + ")", x.body(2, what), want[what]);
        }
        int[] above = {4, 2, 10, 10};
        for (int what = 0; what < 4; what++) {
            CHECK.due("alter(2, " + what + ", above)", x.alter(2, what, above[what]), BAD);
            CHECK.due("alter(2, " + what + ", -1)", x.alter(2, what, -1), BAD);
            CHECK.due("alter(0, " + what + ", 0): proved", x.alter(0, what, 0), STATE);
            CHECK.due("alter(1, " + what + ", 0): fined", x.alter(1, what, 0), STATE);
            CHECK.due("alter(1, " + what + ", above): BAD first", x.alter(1, what, above[what]), BAD);
        }
        CHECK.due("alter(2, 4, 0)", x.alter(2, 4, 0), BAD);
        CHECK.due("alter(2, -1, 0)", x.alter(2, -1, 0), BAD);
        CHECK.due("alter(3, 0, 0)", x.alter(3, 0, 0), BAD);
        CHECK.due("alter(-1, 0, 0)", x.alter(-1, 0, 0), BAD);
    }

    private static void sets() {
        ProofFine x = new ProofFine();
        CHECK.due("set(2, 20)", x.set(2, 20), 5);
        CHECK.due("set(2, 0)", x.set(2, 0), 20);
        CHECK.due("set(3, 60)", x.set(3, 60), 46);
        CHECK.due("set(3, 0)", x.set(3, 0), 60);
        CHECK.due("set(4, 9)", x.set(4, 9), 5);
        CHECK.due("set(4, 1)", x.set(4, 1), 9);
        CHECK.due("set(2, 21)", x.set(2, 21), BAD);
        CHECK.due("set(2, -1)", x.set(2, -1), BAD);
        CHECK.due("set(3, 61)", x.set(3, 61), BAD);
        CHECK.due("set(3, -1)", x.set(3, -1), BAD);
        CHECK.due("set(4, 10)", x.set(4, 10), BAD);
        CHECK.due("set(4, 0)", x.set(4, 0), BAD);
        CHECK.due("set(1, 1)", x.set(1, 1), BAD);
        CHECK.due("set(5, 1)", x.set(5, 1), BAD);
        CHECK.due("PRICE then", x.rule(2), 0);
        CHECK.due("FINE then", x.rule(3), 0);
        CHECK.due("ROUND then", x.rule(4), 1);
    }

    private static void finds() {
        ProofFine x = Check.told("village 0 0;village 0 0;");
        CHECK.due("find(4, 0, 0, 0)", x.find(4, 0, 0, 0), BAD);
        CHECK.due("find(-1, 0, 0, 0)", x.find(-1, 0, 0, 0), BAD);
        CHECK.due("find(0, 2, 0, 0)", x.find(0, 2, 0, 0), BAD);
        CHECK.due("find(0, -1, 0, 0)", x.find(0, -1, 0, 0), BAD);
        CHECK.due("find(0, 0, 10, 0)", x.find(0, 0, 10, 0), BAD);
        CHECK.due("find(0, 0, -1, 0)", x.find(0, 0, -1, 0), BAD);
        CHECK.due("find(0, 0, 0, 10)", x.find(0, 0, 0, 10), BAD);
        CHECK.due("find(0, 0, 0, -1)", x.find(0, 0, 0, -1), BAD);
        for (int b = 0; b < 6; b++) {
            CHECK.due("find, the " + b + "th", x.find(b % 4, b % 2, b, 9 - b), b);
            int[] want = {b % 4, b % 2, b, 9 - b, 0};
            for (int what = 0; what < 5; what++) {
                CHECK.due("found: body(" + b + ", " + what + ")", x.body(b, what), want[what]);
            }
        }
        CHECK.due("find, the 7th", x.find(0, 0, 0, 0), FULL);
        CHECK.due("find, the 7th, no such KIND", x.find(4, 0, 0, 0), BAD);
        CHECK.due("rule(1)", x.rule(1), 6);
        x.set(3, 0);
        x.set(4, 1);
        x.nights(1);
        CHECK.due("find where none lies any more", x.find(0, 0, 0, 0), FULL);
        CHECK.due("find without villages", new ProofFine().find(0, 0, 0, 0), BAD);
    }

    private static void hires() {
        ProofFine x = Check.told("village 40 0;village 9 0;mixed 0 3 0;adopted 0 2 0;plain 0 2 1;river 1 0 0;price 10;");
        CHECK.due("hire(0): FATHER's", x.hire(0), 2);
        CHECK.due("its FATHER's", x.body(0, 2), 4);
        CHECK.due("its MOTHER's", x.body(0, 3), 0);
        CHECK.due("MEANS of its VILLAGE", x.village(0, 0), 30);
        CHECK.due("hire(0): MOTHER's", x.hire(0), 1);
        CHECK.due("its FATHER's still", x.body(0, 2), 4);
        CHECK.due("its MOTHER's then", x.body(0, 3), 1);
        CHECK.due("hire(1)", x.hire(1), 0);
        CHECK.due("hire(1): LACKS nothing", x.hire(1), STATE);
        CHECK.due("hire(2): LACKS nothing", x.hire(2), STATE);
        CHECK.due("hire(3): MEANS are less", x.hire(3), STATE);
        CHECK.due("hire(4)", x.hire(4), BAD);
        CHECK.due("hire(-1)", x.hire(-1), BAD);
        CHECK.due("hire(0): MEANS are just so many", x.hire(0), 0);
        CHECK.due("MEANS are gone", x.village(0, 0), 0);
        CHECK.due("MEANS of the other", x.village(1, 0), 9);
        x.set(4, 1);
        x.nights(1);
        x.grant(1, 0, 99);
        CHECK.due("hire(3): it lies no more", x.hire(3), STATE);
    }
}
