/** Boundaries of A NIGHT, and of promises 14 to 17: nights, runs, ahead, settled. */
public final class NightEdgesTest {
    private static final Check CHECK = new Check("NightEdgesTest");
    private static final int BAD = ProofFine.BAD, FULL = ProofFine.FULL, NONE = ProofFine.NONE;
    private static final int LIES = 0, PROVED = 1, FINED = 2;
    private static final Twin RICH = new Twin(CHECK, Lands::rich);
    private static final Twin EMPTY = new Twin(CHECK, ProofFine::new);

    public static void main(String[] args) {
        theFirstThatLies();
        noneToTake();
        carriedInThisNight();
        aroundTheRing();
        lacksNothing();
        costAndFine();
        costAndMeans();
        costOfNothing();
        watchOfNext();
        noNext();
        watchRunsDown();
        crownerByRound();
        crownerByDay();
        fineAndMeans();
        fineOfNothing();
        finedByOrder();
        finedWhereItWasCarried();
        dayIsOneMore();
        nightsBounds();
        nightsFull();
        runsBounds();
        runsInThemAlone();
        aheadBounds();
        settledBounds();
        settledFirst();
        aheadOfManyDays();
        asItWouldBe();
        manyCalls();
        CHECK.end();
    }

    /** "each takes the first BODY AT it that lies": by number, one alone, none that lies no more. */
    private static void theFirstThatLies() {
        ProofFine x = Check.told("village 99 0;" + "plain 0 2 1;".repeat(6) + "round 9;");
        for (int night = 1; night <= 6; night++) {
            CHECK.due("one in each NIGHT", x.runs(night, 1), (1 << night) - 1);
        }
        x = Check.told("village 99 0;village 99 0;plain 1 2 1;plain 0 2 1;plain 0 2 1;plain 1 2 1;round 9;");
        CHECK.due("the first AT each", x.runs(1, 1), 3);
        CHECK.due("then the second AT each", x.runs(2, 1), 15);
        x = Check.told("village 0 0;plain 0 0 0;plain 0 2 1;round 1;");
        x.nights(1);
        x.find(0, 0, 2, 1);
        CHECK.due("those that lie no more are passed over", x.runs(1, 1), 4);
        x = Check.told("village 0 0;plain 0 0 0;plain 0 2 1;round 9;");
        CHECK.due("the second is not taken while the first lies", x.runs(8, 1), 0);
    }

    /** A VILLAGE at which none lies does nothing; there may be no BODY, or no VILLAGE. */
    private static void noneToTake() {
        ProofFine x = Check.told("village 9 0;village 9 3;round 1;");
        CHECK.due("no BODIES: PAID", x.nights(1), 0);
        CHECK.due("no BODIES: WATCH", x.village(1, 1), 3);
        CHECK.due("no BODIES: MEANS", x.count(0), 18);
        CHECK.due("no BODIES: RUINED", x.rule(9), 0);
        CHECK.due("no BODIES: DAY", x.rule(5), 1);
        x = new ProofFine();
        CHECK.due("no VILLAGES: PAID", x.nights(30), 0);
        CHECK.due("no VILLAGES: DAY", x.rule(5), 30);
    }

    /** "(also one that was carried there in this NIGHT)". */
    private static void carriedInThisNight() {
        ProofFine x = Check.told("village 0 0;village 0 0;village 20 0;plain 0 0 0;round 9;");
        CHECK.due("through two and paid in one NIGHT", x.runs(1, 0), 15);
        CHECK.due("carried twice", x.runs(1, 3), 2);
        x = Check.told("village 0 0;village 20 0;plain 0 0 0;plain 1 2 1;round 9;");
        CHECK.due("the one carried there is the first", x.runs(1, 1), 1);
        x = Check.told("village 0 0;village 20 0;plain 1 2 1;plain 0 0 0;round 9;");
        CHECK.due("the one that lay there is the first", x.runs(1, 1), 1);
        CHECK.due("the one carried there waits", x.ahead(1, 1, 0), 1);
        CHECK.due("until the next NIGHT", x.ahead(1, 2, 1), PROVED);
    }

    /** "in a ring: NEXT to the last one is 0": whose turn in this NIGHT is over. */
    private static void aroundTheRing() {
        for (int villages = 2; villages <= 4; villages++) {
            int last = villages - 1;
            ProofFine x = Check.told("village 20 0;" + "village 0 0;".repeat(last) + "plain " + last + " 0 0;round 9;");
            CHECK.due("from the last of " + villages + " to 0", x.ahead(0, 1, 0), 0);
            CHECK.due("not taken there in this NIGHT", x.ahead(0, 1, 1), LIES);
            CHECK.due("taken there in the next", x.ahead(0, 2, 1), PROVED);
            x = Check.told("village 0 0;".repeat(villages) + "plain 0 0 0;round 9;");
            CHECK.due("once around " + villages + " in a NIGHT", x.runs(1, 3), villages);
            CHECK.due("where it was", x.ahead(0, 1, 0), 0);
            x.grant(0, 1, 1);
            CHECK.due("0 is watched: carried but " + last, x.runs(1, 3), last);
            CHECK.due("to the last", x.ahead(0, 1, 0), last);
        }
    }

    /** "does it LACK nothing, it is proved". */
    private static void lacksNothing() {
        ProofFine x = Check.told("village 0 0;plain 0 2 1;fine 0;price 20;round 1;");
        CHECK.due("LACKS nothing: for nothing", x.runs(1, 0), 0);
        CHECK.due("LACKS nothing: proved, no MEANS, no FINE", x.ahead(0, 1, 1), PROVED);
        x.alter(0, 2, 1);
        CHECK.due("LACKS one", x.ahead(0, 1, 1), FINED);
        x.alter(0, 2, 3);
        CHECK.due("one more than it NEEDS", x.ahead(0, 1, 1), PROVED);
        x.alter(0, 3, 0);
        CHECK.due("LACKS one of MOTHER's", x.ahead(0, 1, 1), FINED);
    }

    /** "does it cost (PRICE times LACKS) less than FINE": cost is 15. */
    private static void costAndFine() {
        paidBy("village 50 0;plain 0 0 0;price 5;fine 14;round 9;", 0);
        paidBy("village 50 0;plain 0 0 0;price 5;fine 15;round 9;", 0);
        paidBy("village 50 0;plain 0 0 0;price 5;fine 16;round 9;", 15);
        paidBy("village 99 0;mixed 0 0 1;price 12;fine 60;round 9;", 0);
        paidBy("village 99 0;mixed 0 0 1;price 11;fine 60;round 9;", 55);
        paidBy("village 99 0;mixed 0 0 0;price 20;fine 60;round 9;", 0);
        paidBy("village 99 0;plain 0 0 1;price 20;fine 41;round 9;", 40);
    }

    /** "and no more than MEANS, MEANS are so much less, it is proved": cost is 15. */
    private static void costAndMeans() {
        paidBy("village 14 0;plain 0 0 0;price 5;round 9;", 0);
        paidBy("village 15 0;plain 0 0 0;price 5;round 9;", 15);
        paidBy("village 16 0;plain 0 0 0;price 5;round 9;", 15);
        ProofFine x = Check.told("village 15 0;plain 0 0 0;price 5;round 9;");
        x.nights(1);
        CHECK.due("nothing is left", x.village(0, 0), 0);
        CHECK.due("not RUINED by it", x.rule(9), 0);
        CHECK.due("FATHER's kin as they were", x.body(0, 2), 0);
        CHECK.due("MOTHER's kin as they were", x.body(0, 3), 0);
    }

    private static void paidBy(String text, int want) {
        ProofFine x = Check.told(text);
        CHECK.due(text + " PAID", x.runs(1, 0), want);
        CHECK.due(text + " proved", x.runs(1, 1), want > 0 ? 1 : 0);
    }

    /** PRICE 0: a cost of 0 is less than FINE 1, not less than FINE 0. */
    private static void costOfNothing() {
        ProofFine x = Check.told("village 0 0;plain 0 0 0;price 0;fine 1;round 9;");
        CHECK.due("0 is less than 1, no more than 0", x.ahead(0, 1, 1), PROVED);
        x.set(3, 0);
        CHECK.due("0 is not less than 0", x.ahead(0, 1, 1), LIES);
    }

    /** "and its WATCH is 0, it is carried AT NEXT; else .. WATCH of that one is 1 less". */
    private static void watchOfNext() {
        for (int watch = 0; watch <= 9; watch++) {
            ProofFine x = Check.told("village 0 9;village 0 " + watch + ";plain 0 0 0;round 9;");
            x.nights(1);
            CHECK.due("WATCH " + watch + ": AT", x.body(0, 1), watch == 0 ? 1 : 0);
            CHECK.due("WATCH " + watch + ": then", x.village(1, 1), watch == 0 ? 0 : watch - 1);
            CHECK.due("WATCH of its own", x.village(0, 1), watch == 0 ? 8 : 9);
        }
    }

    /** "is there a NEXT one (not itself)": one VILLAGE is alone. */
    private static void noNext() {
        ProofFine x = Check.told("village 0 0;plain 0 0 0;round 9;");
        CHECK.due("alone, WATCH 0: not carried", x.runs(8, 3), 0);
        x.grant(0, 1, 9);
        x.nights(1);
        CHECK.due("alone: its own WATCH stays", x.village(0, 1), 9);
        CHECK.due("alone: it lies still", x.body(0, 4), LIES);
        x = Check.told("village 0 0;village 0 0;plain 0 0 0;round 9;");
        CHECK.due("two: carried there and back", x.runs(1, 3), 2);
    }

    /** A WATCH of w is run down by w NIGHTS; in the NIGHT behind those one is carried. */
    private static void watchRunsDown() {
        for (int watch = 0; watch <= 8; watch++) {
            ProofFine x = Check.told("village 0 9;village 20 " + watch + ";plain 0 0 0;round 9;");
            CHECK.due("WATCH " + watch + ": not yet", x.ahead(0, watch, 0), 0);
            CHECK.due("WATCH " + watch + ": then", x.ahead(0, watch + 1, 0), 1);
            CHECK.due("WATCH " + watch + ": settled", x.settled(0), watch + 1);
            CHECK.due("WATCH " + watch + ": proved", x.ahead(0, 9, 1), PROVED);
        }
        ProofFine x = Check.told("village 0 9;village 20 9;plain 0 0 0;round 9;");
        CHECK.due("WATCH 9 lasts until the crowner comes", x.ahead(0, 9, 0), 0);
        CHECK.due("fined then", x.ahead(0, 9, 1), FINED);
    }

    /** "is DAY and 1 a multiple of ROUND, the crowner comes". */
    private static void crownerByRound() {
        for (int round = 1; round <= 9; round++) {
            ProofFine x = Check.told("village 60 0;plain 0 0 0;price 20;round " + round + ";");
            CHECK.due("ROUND " + round + ": the NIGHT before", x.ahead(0, round - 1, 1), LIES);
            CHECK.due("ROUND " + round + ": then", x.ahead(0, round, 1), FINED);
            CHECK.due("ROUND " + round + ": PAID before", x.runs(round - 1, 0), 0);
            CHECK.due("ROUND " + round + ": PAID then", x.runs(round, 0), 46);
            CHECK.due("ROUND " + round + ": PAID behind", x.runs(round + 1, 0), 46);
            CHECK.due("ROUND " + round + ": settled", x.settled(0), round);
        }
    }

    /** The same from every DAY: the crowner goes by DAY, not by when ROUND was set. */
    private static void crownerByDay() {
        for (int day = 0; day <= 12; day++) {
            ProofFine x = Check.told("village 60 0;");
            x.nights(day);
            x.find(3, 0, 0, 0);
            for (int round = 1; round <= 9; round++) {
                x.set(4, round);
                x.set(2, 20);
                CHECK.due("DAY " + day + ", ROUND " + round, x.settled(0), round - day % round);
            }
        }
    }

    /** "MEANS .. are less by FINE (0 at least: are they less than FINE, the VILLAGE is RUINED)". */
    private static void fineAndMeans() {
        fined(29, 30, 29, 1);
        fined(30, 30, 30, 0);
        fined(31, 30, 30, 0);
        fined(0, 30, 0, 1);
        fined(1, 30, 1, 1);
        fined(0, 1, 0, 1);
        fined(1, 1, 1, 0);
        fined(99, 60, 60, 0);
        fined(59, 60, 59, 1);
        fined(60, 60, 60, 0);
    }

    private static void fined(int means, int fine, int paid, int ruined) {
        ProofFine x = Check.told("village " + means + " 0;mixed 0 0 0;price 20;round 1;fine " + fine + ";");
        String call = "MEANS " + means + ", FINE " + fine;
        CHECK.due(call + ": RUINED in them", x.runs(1, 4), ruined);
        CHECK.due(call + ": PAID", x.nights(1), paid);
        CHECK.due(call + ": MEANS then", x.village(0, 0), means - paid);
        CHECK.due(call + ": RUINED", x.rule(9), ruined);
        CHECK.due(call + ": WAY", x.body(0, 4), FINED);
    }

    /** FINE 0 takes nothing, ruins none, but one is fined. */
    private static void fineOfNothing() {
        fined(0, 0, 0, 0);
        fined(1, 0, 0, 0);
        fined(99, 0, 0, 0);
    }

    /** "for each BODY that lies, by order": the second may ruin where the first did not. */
    private static void finedByOrder() {
        ProofFine x = Check.told("village 59 9;village 60 9;mixed 0 0 0;mixed 1 0 0;mixed 0 0 0;mixed 1 0 0;"
            + "price 20;fine 30;round 1;");
        CHECK.due("PAID by both", x.runs(1, 0), 119);
        CHECK.due("RUINED by the second fine", x.runs(1, 4), 1);
        CHECK.due("all are fined", x.runs(1, 2), 15);
        x.grant(0, 0, 61);
        CHECK.due("one more than two fines", x.runs(1, 4), 0);
        x.grant(0, 0, 60);
        CHECK.due("just two fines", x.runs(1, 4), 0);
        x.nights(1);
        CHECK.due("nothing is left", x.count(0), 0);
        x.find(3, 0, 0, 0);
        x.nights(1);
        CHECK.due("RUINED by a third", x.rule(9), 1);
    }

    /** The crowner comes behind all that VILLAGES did: one is fined where it was carried in that NIGHT. */
    private static void finedWhereItWasCarried() {
        ProofFine x = Check.told("village 5 9;village 99 0;mixed 0 0 0;price 20;fine 30;round 1;");
        CHECK.due("the other pays", x.nights(1), 30);
        CHECK.due("MEANS of the first", x.village(0, 0), 5);
        CHECK.due("MEANS of the other", x.village(1, 0), 69);
        CHECK.due("AT the other", x.body(0, 1), 1);
        // paid for in the NIGHT in which the crowner comes
        x = Check.told("village 50 9;plain 0 0 0;round 1;");
        CHECK.due("proved ahead of the crowner", x.nights(1), 15);
        CHECK.due("not fined", x.body(0, 4), PROVED);
    }

    /** "DAY is 1 more". */
    private static void dayIsOneMore() {
        ProofFine x = Check.told("village 9 0;");
        for (int day = 1; day <= 20; day++) {
            x.nights(1);
            CHECK.due("DAY", x.rule(5), day);
        }
        x.nights(0);
        CHECK.due("no NIGHT, no DAY", x.rule(5), 20);
        x.nights(30);
        CHECK.due("thirty more", x.rule(5), 50);
    }

    /** nights: "n NIGHTS (0 to 30): PAID in them. BAD". */
    private static void nightsBounds() {
        RICH.bounds("nights", (x, n) -> x.nights(n), 0, 0, 30, 36);
        RICH.leaves("nights(0)", x -> x.nights(0), 0);
        EMPTY.bounds("nights of nothing", (x, n) -> x.nights(n), 0, 0, 30, 0);
        ProofFine x = Lands.rich();
        int[] paid = {18, 18, 0};
        for (int night = 0; night < 3; night++) {
            CHECK.due("NIGHT " + night + " by itself", x.nights(1), paid[night]);
        }
        CHECK.due("DAY behind three", x.rule(5), 5);
        CHECK.due("who was RUINED before and now", x.rule(9), 6);
        CHECK.due("what is SEEN stays", x.count(1), 2);
        CHECK.due("IMAGES stay", x.count(2), 1);
    }

    private static ProofFine atDay(int day) {
        ProofFine x = Lands.rich();
        for (int i = 0; i < 40 && x.rule(5) < day; i++) {
            x.nights(Math.min(30, day - x.rule(5)));
        }
        x.find(3, 3, 0, 0);
        return x;
    }

    /** nights: "FULL: DAY would be 1000 or more"; BAD is first. */
    private static void nightsFull() {
        for (int day : new int[] {970, 985, 998, 999}) {
            Twin t = new Twin(CHECK, () -> atDay(day));
            int room = 999 - day;
            t.answers("DAY " + day + ": to 999", x -> x.nights(room) < 0 ? -1 : x.rule(5), 999);
            t.leaves("DAY " + day + ": to 1000", x -> x.nights(room + 1), FULL);
            t.leaves("DAY " + day + ": thirty", x -> x.nights(30), FULL);
            t.bad("DAY " + day + ": nights", (x, n) -> x.nights(n), -1, 31, Integer.MIN_VALUE, Integer.MAX_VALUE);
        }
        Twin t = new Twin(CHECK, () -> atDay(969));
        t.answers("DAY 969: thirty", x -> x.nights(30) < 0 ? -1 : x.rule(5), 999);
        new Twin(CHECK, () -> atDay(999)).leaves("DAY 999: no NIGHT", x -> x.nights(0), 0);
    }

    /** runs: "n of them (0 to 30)", what 0 to 4. "BAD." */
    private static void runsBounds() {
        RICH.bounds("runs(n, 0)", (x, n) -> x.runs(n, 0), 0, 0, 30, 36);
        RICH.bounds("runs(n, 1)", (x, n) -> x.runs(n, 1), 0, 1, 30, 13);
        RICH.bounds("runs(n, 2)", (x, n) -> x.runs(n, 2), 0, 2, 30, 18);
        RICH.bounds("runs(n, 3)", (x, n) -> x.runs(n, 3), 0, 0, 30, 3);
        RICH.bounds("runs(n, 4)", (x, n) -> x.runs(n, 4), 0, 0, 30, 4);
        RICH.bounds("runs(30, what)", (x, what) -> x.runs(30, what), 0, 36, 4, 4);
        RICH.bounds("runs(0, what)", (x, what) -> x.runs(0, what), 0, 0, 4, 0);
        EMPTY.bounds("runs of nothing", (x, n) -> x.runs(n, 0), 0, 0, 30, 0);
    }

    /** runs: carried "in them", RUINED "in them"; proved, fined "then". */
    private static void runsInThemAlone() {
        ProofFine x = Lands.rich();
        x.nights(2);
        CHECK.due("PAID in them", x.runs(9, 0), 0);
        CHECK.due("proved then", x.runs(0, 1), 13);
        CHECK.due("fined then", x.runs(0, 2), 18);
        CHECK.due("carried in them", x.runs(9, 3), 0);
        CHECK.due("RUINED in them", x.runs(9, 4), 0);
        x.find(3, 1, 0, 0);
        x.set(4, 1);
        x.grant(2, 1, 9);
        CHECK.due("RUINED before, RUINED in them again", x.runs(1, 4), 2);
    }

    /** ahead: a BODY, "n of them (0 to 30)", what 0, 1. "BAD." */
    private static void aheadBounds() {
        RICH.bounds("ahead(b, 30, 0)", (x, b) -> x.ahead(b, 30, 0), 0, 0, 4, 2);
        RICH.bounds("ahead(b, 30, 1)", (x, b) -> x.ahead(b, 30, 1), 0, PROVED, 4, FINED);
        RICH.bounds("ahead(4, n, 0)", (x, n) -> x.ahead(4, n, 0), 0, 0, 30, 2);
        RICH.bounds("ahead(4, n, 1)", (x, n) -> x.ahead(4, n, 1), 0, LIES, 30, FINED);
        RICH.bounds("ahead(4, 30, what)", (x, what) -> x.ahead(4, 30, what), 0, 2, 1, FINED);
        EMPTY.bad("ahead of none", (x, b) -> x.ahead(b, 0, 0), 0, -1, 1);
    }

    /** settled: "behind how many (0 to 30) a BODY lies no more first. BAD; NONE: behind none." */
    private static void settledBounds() {
        RICH.bounds("settled", (x, b) -> x.settled(b), 0, 0, 4, 2);
        RICH.leaves("settled(1): fined", x -> x.settled(1), 0);
        RICH.leaves("settled(2)", x -> x.settled(2), 2);
        RICH.leaves("settled(3)", x -> x.settled(3), 1);
        EMPTY.bad("settled of none", (x, b) -> x.settled(b), 0, -1, 1);
    }

    /** The latest that may be: ROUND is 9 at most, so one is settled behind 9 NIGHTS, and NONE is never due. */
    private static void settledFirst() {
        ProofFine x = Check.told("village 0 9;village 0 9;" + "mixed 0 0 0;".repeat(6) + "round 9;");
        for (int b = 0; b < 6; b++) {
            CHECK.due("settled by the crowner", x.settled(b), 9);
            CHECK.holds("never NONE", x.settled(b) != NONE);
        }
        x.nights(8);
        CHECK.due("the NIGHT before", x.settled(5), 1);
        x.nights(1);
        CHECK.due("settled now", x.settled(5), 0);
        CHECK.due("settled by ahead()", x.ahead(5, 0, 1), FINED);
    }

    /** BY NIGHTS has no end of days: DAY 1000 is refused by nights() alone. */
    private static void aheadOfManyDays() {
        Twin t = new Twin(CHECK, () -> atDay(999));
        t.leaves("runs(1, 2) at DAY 999", x -> x.runs(1, 2), 18 + 32);
        t.leaves("runs(30, 2) at DAY 999", x -> x.runs(30, 2), 18 + 32);
        t.leaves("ahead(5, 1, 1) at DAY 999", x -> x.ahead(5, 1, 1), FINED);
        t.leaves("settled(5) at DAY 999", x -> x.settled(5), 1);
        t.leaves("nights(1) at DAY 999", x -> x.nights(1), FULL);
        t.leaves("runs(31, 0) at DAY 999", x -> x.runs(31, 0), BAD);
    }

    /** "BY NIGHTS: as it would be from now on": what only asks changes nothing, and nights() agrees. */
    private static void asItWouldBe() {
        for (int n : new int[] {0, 1, 2, 29, 30}) {
            for (int what = 0; what <= 4; what++) {
                int which = what;
                RICH.leaves("runs(" + n + ", " + what + ")", x -> x.runs(n, which));
            }
            for (int b = 0; b < 5; b++) {
                int who = b;
                RICH.leaves("ahead(" + b + ", " + n + ", 0)", x -> x.ahead(who, n, 0));
                RICH.leaves("ahead(" + b + ", " + n + ", 1)", x -> x.ahead(who, n, 1));
            }
            ProofFine asked = Lands.rich();
            ProofFine run = Lands.rich();
            CHECK.due("PAID of " + n, run.nights(n), asked.runs(n, 0));
            CHECK.due("proved behind " + n, run.rule(7), asked.runs(n, 1));
            CHECK.due("fined behind " + n, run.rule(8), asked.runs(n, 2));
            for (int b = 0; b < 5; b++) {
                CHECK.due("AT behind " + n, run.body(b, 1), asked.ahead(b, n, 0));
                CHECK.due("WAY behind " + n, run.body(b, 4), asked.ahead(b, n, 1));
            }
        }
    }

    /** "An object is used for at most 512 calls after it has been made": the 512th is as good as the first. */
    private static void manyCalls() {
        String text = "village 60 9;village 9 9;plain 0 2 0;round 9;";
        ProofFine x = Check.told(text);
        int calls = text.length() + 1;
        int days = 0;
        while (calls < 510) {
            CHECK.due("PAID", x.nights(1), days == 0 ? 5 : 0);
            days++;
            calls++;
        }
        CHECK.due("the 511th call: DAY", x.rule(5), days);
        CHECK.due("the 512th call: MEANS", x.count(0), 64);
    }
}
