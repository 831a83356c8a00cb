/** Boundaries of promises 6 to 13: rule, village, body, grant, alter, set, find, hire; NEEDS and LACKS. */
public final class StateEdgesTest {
    private static final Check CHECK = new Check("StateEdgesTest");
    private static final int BAD = ProofFine.BAD, STATE = ProofFine.STATE, FULL = ProofFine.FULL;
    private static final int[] FATHER_NEEDS = {2, 3, 3, 4};
    private static final int[] MOTHER_NEEDS = {1, 1, 0, 2};
    private static final Twin RICH = new Twin(CHECK, Lands::rich);
    private static final Twin CROWDED = new Twin(CHECK, Lands::crowded);
    private static final Twin EMPTY = new Twin(CHECK, ProofFine::new);

    public static void main(String[] args) {
        rule();
        ruleBits();
        village();
        villageBits();
        body();
        needsAndLacks();
        grantMeans();
        grantWatch();
        alterWhich();
        alterBounds();
        alterLiesNoMore();
        alterLeavesTheRest();
        set();
        findBounds();
        findFull();
        findNumbers();
        hireWhom();
        hireLiesNoMore();
        hireLacksNothing();
        hireMeans();
        hireFatherFirst();
        CHECK.end();
    }

    /** rule: what is 0 to 9. "BAD." */
    private static void rule() {
        RICH.bounds("rule", (x, what) -> x.rule(what), 0, 4, 9, 2);
        EMPTY.bounds("rule of nothing", (x, what) -> x.rule(what), 0, 0, 9, 0);
        for (int what = 0; what <= 9; what++) {
            int which = what;
            RICH.leaves("rule(" + what + ")", x -> x.rule(which));
        }
    }

    /** rule: "6 BODIES that lie, 7 that are proved, 8 fined (bits each), 9 VILLAGES .. RUINED (bits)". */
    private static void ruleBits() {
        String six = "village 0 9;" + "plain 0 0 0;".repeat(6);
        ProofFine x = Check.told(six + "round 1;");
        CHECK.due("all six lie", x.rule(6), 63);
        x.nights(1);
        CHECK.due("none lies", x.rule(6), 0);
        CHECK.due("none is proved", x.rule(7), 0);
        CHECK.due("all six are fined", x.rule(8), 63);
        x = Check.told("village 9 9;" + "plain 0 2 1;".repeat(6) + "round 9;");
        x.nights(6);
        CHECK.due("all six are proved", x.rule(7), 63);
        CHECK.due("none is fined", x.rule(8), 0);
        x = Check.told("village 9 9;village 9 9;village 9 9;village 9 9;"
            + "plain 0 0 0;plain 1 0 0;plain 2 0 0;plain 3 0 0;round 1;");
        x.nights(1);
        CHECK.due("all four are RUINED", x.rule(9), 15);
    }

    /** village: "Of a VILLAGE: 0 MEANS, 1 WATCH, 2 BODIES that lie AT it (bits). BAD." */
    private static void village() {
        RICH.bounds("MEANS of village", (x, v) -> x.village(v, 0), 0, 40, 3, 70);
        RICH.bounds("WATCH of village", (x, v) -> x.village(v, 1), 0, 3, 3, 1);
        RICH.bounds("village(3, what)", (x, what) -> x.village(3, what), 0, 70, 2, 8);
        EMPTY.bad("village of none", (x, v) -> x.village(v, 0), 0, -1, 1, 3);
        new Twin(CHECK, () -> Check.told("village 7 3;"))
            .bounds("village of one", (x, v) -> x.village(v, 0), 0, 7, 0, 7);
    }

    /** village: "BODIES that lie AT it (bits)": none, all; not those that lie no more, nor elsewhere. */
    private static void villageBits() {
        ProofFine x = Check.told("village 0 9;village 0 9;" + "plain 0 0 0;".repeat(6));
        CHECK.due("six lie at 0", x.village(0, 2), 63);
        CHECK.due("none lies at 1", x.village(1, 2), 0);
        x.alter(5, 1, 1);
        CHECK.due("five lie at 0", x.village(0, 2), 31);
        CHECK.due("the last lies at 1", x.village(1, 2), 32);
        RICH.answers("the proved one is not among them", y -> y.village(0, 2), 16);
        RICH.answers("the fined one is not among them", y -> y.village(1, 2), 0);
    }

    /** body: "Of a BODY: 0 KIND .. 5 LACKS. BAD." */
    private static void body() {
        RICH.bounds("KIND of body", (x, b) -> x.body(b, 0), 0, 0, 4, 3);
        RICH.bounds("AT of body", (x, b) -> x.body(b, 1), 0, 0, 4, 0);
        RICH.bounds("body(4, what)", (x, what) -> x.body(4, what), 0, 3, 5, 6);
        RICH.bounds("body(1, what), fined", (x, what) -> x.body(1, what), 0, 3, 5, 6);
        CROWDED.bounds("body of six", (x, b) -> x.body(b, 2), 0, 2, 5, 9);
        EMPTY.bad("body of none", (x, b) -> x.body(b, 0), 0, -1, 1, 5);
        RICH.answers("WAY: lies", x -> x.body(4, 4), 0);
        RICH.answers("WAY: proved", x -> x.body(0, 4), 1);
        RICH.answers("WAY: fined", x -> x.body(1, 4), 2);
    }

    /** "plain 2, 1; river 1 more of FATHER's; adopted as river, none of MOTHER's; mixed twice .. plain". */
    private static void needsAndLacks() {
        for (int kind = 0; kind < 4; kind++) {
            int f = FATHER_NEEDS[kind];
            int m = MOTHER_NEEDS[kind];
            lacks(kind, 0, 0, f + m);
            lacks(kind, f - 1, m, 1);
            lacks(kind, f, m, 0);
            lacks(kind, f + 1, m, 0);
            lacks(kind, 9, 9, 0);
            lacks(kind, f, m + 1, 0);
            // more than NEEDS of the one are not for the other
            lacks(kind, 9, 0, m);
            lacks(kind, 0, 9, f);
            if (m > 0) {
                lacks(kind, f, m - 1, 1);
                lacks(kind, f - 1, m - 1, 2);
            }
        }
    }

    private static void lacks(int kind, int f, int m, int want) {
        ProofFine x = Check.told("village 1 1;");
        x.find(kind, 0, f, m);
        CHECK.due("LACKS of KIND " + kind + " with " + f + ", " + m, x.body(0, 5), want);
        CHECK.due("LACKS of all with " + f + ", " + m, x.count(5), want);
    }

    /** grant: "MEANS .. (what 0 ..) of a VILLAGE becomes v: what it was. BAD."; MEANS 0 to 99. */
    private static void grantMeans() {
        RICH.bounds("grant(3, 0, v)", (x, v) -> x.grant(3, 0, v), 0, 70, 99, 70);
        RICH.bounds("grant(g, 0, 5)", (x, g) -> x.grant(g, 0, 5), 0, 40, 3, 70);
        RICH.bounds("grant(3, what, 5)", (x, what) -> x.grant(3, what, 5), 0, 70, 1, 1);
        EMPTY.bad("grant to none", (x, g) -> x.grant(g, 0, 5), 0, -1, 1);
        ProofFine x = Lands.rich();
        x.grant(3, 0, 99);
        CHECK.due("MEANS 99", x.village(3, 0), 99);
        CHECK.due("what they were", x.grant(3, 0, 0), 99);
        CHECK.due("MEANS 0", x.village(3, 0), 0);
        CHECK.due("WATCH stays", x.village(3, 1), 1);
        CHECK.due("MEANS of the others", x.count(0), 40);
        x.grant(1, 0, 50);
        CHECK.due("who was RUINED stays so", x.rule(9), 2);
    }

    /** grant: "WATCH (what .. 1)"; WATCH 0 to 9. */
    private static void grantWatch() {
        RICH.bounds("grant(0, 1, v)", (x, v) -> x.grant(0, 1, v), 0, 3, 9, 3);
        RICH.bounds("grant(g, 1, 5)", (x, g) -> x.grant(g, 1, 5), 0, 3, 3, 1);
        RICH.leaves("grant(0, 1, 99): MEANS' bounds are not WATCH's", x -> x.grant(0, 1, 99), BAD);
        RICH.leaves("grant(0, 1, 3): as it is", x -> x.grant(0, 1, 3), 3);
        ProofFine x = Lands.rich();
        x.grant(0, 1, 9);
        CHECK.due("WATCH 9", x.village(0, 1), 9);
        CHECK.due("what it was", x.grant(0, 1, 0), 9);
        CHECK.due("WATCH 0", x.village(0, 1), 0);
        CHECK.due("MEANS stay", x.village(0, 0), 40);
        CHECK.due("WATCH of the next", x.village(1, 1), 0);
    }

    /** alter: "KIND, AT, FATHER's, MOTHER's kin (what 0 to 3) of a BODY". */
    private static void alterWhich() {
        RICH.bounds("alter(3, what, 3)", (x, what) -> x.alter(3, what, 3), 0, 2, 3, 5);
        RICH.bounds("alter(b, 0, 0)", (x, b) -> x.alter(b, 0, 0), 0, STATE, 4, 3);
        CROWDED.bounds("alter(b, 2, 0) of six", (x, b) -> x.alter(b, 2, 0), 0, STATE, 5, 9);
        EMPTY.bad("alter of none", (x, b) -> x.alter(b, 0, 0), 0, -1, 1);
    }

    /** alter: v within KIND 0 to 3, a VILLAGE that there is, kin 0 to 9. */
    private static void alterBounds() {
        RICH.bounds("alter(3, 0, v)", (x, v) -> x.alter(3, 0, v), 0, 2, 3, 2);
        RICH.bounds("alter(3, 1, v)", (x, v) -> x.alter(3, 1, v), 0, 3, 3, 3);
        RICH.bounds("alter(3, 2, v)", (x, v) -> x.alter(3, 2, v), 0, 0, 9, 0);
        RICH.bounds("alter(3, 3, v)", (x, v) -> x.alter(3, 3, v), 0, 5, 9, 5);
        for (int villages = 1; villages <= 3; villages++) {
            String row = "village 1 1;".repeat(villages);
            new Twin(CHECK, () -> Check.told(row + "plain 0 0 0;"))
                .bounds("alter(0, 1, v) of " + villages, (x, v) -> x.alter(0, 1, v), 0, 0, villages - 1, 0);
        }
        int[] most = {3, 3, 9, 9};
        for (int what = 0; what <= 3; what++) {
            for (int v : new int[] {0, most[what]}) {
                ProofFine x = Lands.rich();
                x.alter(3, what, v);
                CHECK.due("altered " + what + " to " + v, x.body(3, what), v);
            }
        }
    }

    /** alter: "STATE: it lies no more"; BAD is first. */
    private static void alterLiesNoMore() {
        int[] above = {4, 4, 10, 10};
        for (int what = 0; what <= 3; what++) {
            int which = what;
            for (int b = 0; b <= 1; b++) {
                int who = b;
                String call = "alter(" + b + ", " + what + ", ";
                RICH.leaves(call + "0)", x -> x.alter(who, which, 0), STATE);
                RICH.leaves(call + "3)", x -> x.alter(who, which, 3), STATE);
                RICH.leaves(call + "above)", x -> x.alter(who, which, above[which]), BAD);
                RICH.leaves(call + "-1)", x -> x.alter(who, which, -1), BAD);
            }
        }
        RICH.leaves("alter(0, 4, 0)", x -> x.alter(0, 4, 0), BAD);
        RICH.leaves("alter(1, -1, 0)", x -> x.alter(1, -1, 0), BAD);
    }

    /** alter changes one of a BODY alone; a number that is there already changes nothing. */
    private static void alterLeavesTheRest() {
        int[] is = {2, 3, 0, 5};
        for (int what = 0; what <= 3; what++) {
            int which = what;
            RICH.leaves("alter(3, " + what + ", as it is)", x -> x.alter(3, which, is[which]), is[which]);
            ProofFine x = Lands.rich();
            x.alter(3, what, 1);
            for (int other = 0; other <= 3; other++) {
                CHECK.due("altered " + what + ": body(3, " + other + ")", x.body(3, other),
                    other == what ? 1 : is[other]);
            }
            CHECK.due("altered " + what + ": it lies still", x.body(3, 4), 0);
        }
    }

    /** set: "PRICE, FINE, ROUND (what 2, 3, 4 as in rule()) becomes v: what it was. BAD." */
    private static void set() {
        RICH.bounds("set(2, v)", (x, v) -> x.set(2, v), 0, 6, 20, 6);
        RICH.bounds("set(3, v)", (x, v) -> x.set(3, v), 0, 30, 60, 30);
        RICH.bounds("set(4, v)", (x, v) -> x.set(4, v), 1, 2, 9, 2);
        RICH.bounds("set(what, 5)", (x, what) -> x.set(what, 5), 2, 6, 4, 2);
        RICH.bad("set(what, 5)", (x, what) -> x.set(what, 5), 0, 1, 5, 6, 9);
        RICH.leaves("set(2, 6): as it is", x -> x.set(2, 6), 6);
        RICH.leaves("set(3, 30): as it is", x -> x.set(3, 30), 30);
        RICH.leaves("set(4, 2): as it is", x -> x.set(4, 2), 2);
        int[] least = {0, 0, 1};
        int[] most = {20, 60, 9};
        for (int what = 2; what <= 4; what++) {
            ProofFine x = new ProofFine();
            x.set(what, most[what - 2]);
            CHECK.due("set(" + what + ", most)", x.rule(what), most[what - 2]);
            CHECK.due("what it was", x.set(what, least[what - 2]), most[what - 2]);
            CHECK.due("set(" + what + ", least)", x.rule(what), least[what - 2]);
            for (int other = 2; other <= 4; other++) {
                if (other != what) {
                    CHECK.due("the others stay", x.rule(other), new int[] {5, 46, 5}[other - 2]);
                }
            }
        }
    }

    /** find: "of a KIND, AT a VILLAGE, FATHER's, MOTHER's kin: its number. BAD". */
    private static void findBounds() {
        RICH.bounds("find(kind, 0, 0, 0)", (x, kind) -> x.find(kind, 0, 0, 0), 0, 5, 3, 5);
        RICH.bounds("find(0, g, 0, 0)", (x, g) -> x.find(0, g, 0, 0), 0, 5, 3, 5);
        RICH.bounds("find(0, 0, f, 0)", (x, f) -> x.find(0, 0, f, 0), 0, 5, 9, 5);
        RICH.bounds("find(0, 0, 0, m)", (x, m) -> x.find(0, 0, 0, m), 0, 5, 9, 5);
        EMPTY.bad("find without VILLAGES", (x, g) -> x.find(0, g, 0, 0), 0, -1, 1);
        for (int villages = 1; villages <= 3; villages++) {
            String row = "village 1 1;".repeat(villages);
            new Twin(CHECK, () -> Check.told(row))
                .bounds("find(0, g, 0, 0) of " + villages, (x, g) -> x.find(0, g, 0, 0), 0, 0, villages - 1, 0);
        }
    }

    /** find: "FULL"; BAD is first. "BODIES .. (6 at most ..)". */
    private static void findFull() {
        RICH.answers("the 6th", x -> x.find(0, 0, 0, 0), 5);
        CROWDED.leaves("the 7th", x -> x.find(0, 0, 0, 0), FULL);
        CROWDED.leaves("the 7th, the greatest numbers", x -> x.find(3, 3, 9, 9), FULL);
        CROWDED.bad("the 7th, no such KIND", (x, kind) -> x.find(kind, 0, 0, 0), -1, 4);
        CROWDED.bad("the 7th, no such VILLAGE", (x, g) -> x.find(0, g, 0, 0), -1, 4);
        CROWDED.bad("the 7th, no such FATHER's", (x, f) -> x.find(0, 0, f, 0), -1, 10);
        CROWDED.bad("the 7th, no such MOTHER's", (x, m) -> x.find(0, 0, 0, m), -1, 10);
        new Twin(CHECK, () -> {
            ProofFine x = Lands.crowded();
            x.nights(2);
            return x;
        }).leaves("the 7th where none lies any more", x -> x.find(0, 0, 0, 0), FULL);
    }

    /** find: "A BODY more that lies .. its number": 0 to 5 by order. */
    private static void findNumbers() {
        ProofFine x = Check.told("village 1 1;village 2 2;");
        for (int b = 0; b <= 5; b++) {
            CHECK.due("its number", x.find(b % 4, b % 2, 9 - b, b), b);
            CHECK.due("BODIES", x.rule(1), b + 1);
            CHECK.due("it lies", x.rule(6), (2 << b) - 1);
        }
        for (int b = 0; b <= 5; b++) {
            CHECK.due("KIND of " + b, x.body(b, 0), b % 4);
            CHECK.due("AT of " + b, x.body(b, 1), b % 2);
            CHECK.due("FATHER's of " + b, x.body(b, 2), 9 - b);
            CHECK.due("MOTHER's of " + b, x.body(b, 3), b);
        }
    }

    /** hire: "A kinsman is hired for a BODY .. BAD". */
    private static void hireWhom() {
        RICH.bounds("hire", (x, b) -> x.hire(b), 0, STATE, 4, 5);
        EMPTY.bad("hire for none", (x, b) -> x.hire(b), 0, -1, 1);
    }

    /** hire: "STATE: it lies no more". */
    private static void hireLiesNoMore() {
        Twin t = new Twin(CHECK, () -> {
            ProofFine x = Check.told("village 50 0;village 0 9;plain 0 0 0;mixed 1 0 0;round 1;");
            x.nights(1);
            x.grant(0, 0, 99);
            x.grant(1, 0, 99);
            return x;
        });
        t.answers("paid for: LACKS stay", x -> x.body(0, 5), 3);
        t.answers("proved", x -> x.body(0, 4), 1);
        t.leaves("hire for a proved one", x -> x.hire(0), STATE);
        t.answers("fined", x -> x.body(1, 4), 2);
        t.leaves("hire for a fined one", x -> x.hire(1), STATE);
    }

    /** hire: "STATE: .. LACKS nothing". */
    private static void hireLacksNothing() {
        for (int kind = 0; kind < 4; kind++) {
            int which = kind;
            int f = FATHER_NEEDS[kind];
            int m = MOTHER_NEEDS[kind];
            Twin t = new Twin(CHECK, () -> {
                ProofFine x = Check.told("village 99 0;");
                x.find(which, 0, f, m);
                x.find(which, 0, f - 1, m);
                x.find(which, 0, 9, 9);
                return x;
            });
            t.leaves("hire, just enough, KIND " + kind, x -> x.hire(0), STATE);
            t.answers("hire, one lacks, KIND " + kind, x -> x.hire(1), 0);
            t.leaves("hire, more than enough, KIND " + kind, x -> x.hire(2), STATE);
            ProofFine x = Check.told("village 99 0;");
            x.find(kind, 0, f - 1, m);
            x.hire(0);
            CHECK.due("hired until nothing lacks", x.hire(0), STATE);
        }
    }

    /** hire: "STATE: .. MEANS are less than PRICE"; "for PRICE". */
    private static void hireMeans() {
        int[] prices = {0, 1, 5, 20};
        for (int price : prices) {
            if (price > 0) {
                new Twin(CHECK, () -> Check.told("village " + (price - 1) + " 0;village 99 0;plain 0 0 0;price " + price + ";"))
                    .leaves("hire, MEANS 1 less than PRICE " + price, x -> x.hire(0), STATE);
            }
            ProofFine x = Check.told("village " + price + " 0;village 99 0;plain 0 0 0;price " + price + ";");
            CHECK.due("hire, MEANS just PRICE " + price, x.hire(0), 2);
            CHECK.due("nothing is left", x.village(0, 0), 0);
            CHECK.due("the other pays nothing", x.village(1, 0), 99);
            x = Check.told("village " + (price + 1) + " 0;plain 0 0 0;price " + price + ";");
            CHECK.due("hire, MEANS 1 more than PRICE " + price, x.hire(0), 2);
            CHECK.due("1 is left", x.village(0, 0), 1);
        }
    }

    /** hire: "FATHER's one more, if it LACKS such, else MOTHER's: LACKS then". */
    private static void hireFatherFirst() {
        for (int kind = 0; kind < 4; kind++) {
            int f = FATHER_NEEDS[kind];
            int m = MOTHER_NEEDS[kind];
            ProofFine x = Check.told("village 99 0;price 1;");
            x.find(kind, 0, 0, 0);
            for (int hired = 1; hired <= f + m; hired++) {
                CHECK.due("LACKS behind " + hired + ", KIND " + kind, x.hire(0), f + m - hired);
                CHECK.due("FATHER's behind " + hired + ", KIND " + kind, x.body(0, 2), Math.min(hired, f));
                CHECK.due("MOTHER's behind " + hired + ", KIND " + kind, x.body(0, 3), Math.max(0, hired - f));
                CHECK.due("MEANS behind " + hired, x.village(0, 0), 99 - hired);
            }
            CHECK.due("one more, KIND " + kind, x.hire(0), STATE);
            CHECK.due("no DAY has passed", x.rule(5), 0);
        }
    }
}
