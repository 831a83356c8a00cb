/** Boundaries of promises 27 to 31: see, forget, kinds, fathers, look; SEEN. */
public final class SeenEdgesTest {
    private static final Check CHECK = new Check("SeenEdgesTest");
    private static final int BAD = ProofFine.BAD, FULL = ProofFine.FULL, NONE = ProofFine.NONE;
    private static final Twin RICH = new Twin(CHECK, Lands::rich);
    private static final Twin EMPTY = new Twin(CHECK, ProofFine::new);

    public static void main(String[] args) {
        seeBounds();
        seeFull();
        seeByVillages();
        forget();
        forgetTheFirst();
        kindsBounds();
        kindsByNights();
        kindsOfOthers();
        kindsOfOneThatLiesNoMore();
        seenFromNowOn();
        fathersBounds();
        fathersLeastAndMost();
        lookBounds();
        lookFewerThanNow();
        lookTheFirst();
        lookElsewhere();
        lookNightNine();
        asksAlone();
        CHECK.end();
    }

    /** The rich land, where a sixth may be SEEN still. */
    private static ProofFine seen(int many) {
        ProofFine x = Lands.rich();
        for (int i = 2; i < many; i++) {
            x.see(2, 0, 2);
        }
        return x;
    }

    /** A plain or an adopted one is paid for at 0; a river or a mixed one is carried to 1 in the first NIGHT. */
    private static ProofFine two() {
        return Check.told("village 5 0;village 50 0;plain 0 2 0;round 9;");
    }

    /** see: "behind n NIGHTS (0 to 9) a BODY is AT a VILLAGE: how many are. BAD". */
    private static void seeBounds() {
        RICH.bounds("see(b, 0, 0)", (x, b) -> x.see(b, 0, 0), 0, 3, 4, 3);
        RICH.bounds("see(0, n, 0)", (x, n) -> x.see(0, n, 0), 0, 3, 9, 3);
        RICH.bounds("see(0, 0, g)", (x, g) -> x.see(0, 0, g), 0, 3, 3, 3);
        EMPTY.bad("see without BODIES", (x, b) -> x.see(b, 0, 0), 0, -1, 1);
        new Twin(CHECK, () -> Check.told("village 1 1;")).bad("see without BODIES", (x, b) -> x.see(b, 0, 0), 0, -1, 1);
    }

    /** "SEEN (6)"; see: "FULL"; BAD is first. */
    private static void seeFull() {
        new Twin(CHECK, () -> seen(4)).answers("the 5th", x -> x.see(0, 0, 0), 5);
        new Twin(CHECK, () -> seen(5)).answers("the 6th", x -> x.see(0, 0, 0), 6);
        Twin t = new Twin(CHECK, () -> seen(6));
        t.leaves("the 7th", x -> x.see(0, 0, 0), FULL);
        t.leaves("the 7th, the greatest numbers", x -> x.see(4, 9, 3), FULL);
        t.bad("the 7th, no such BODY", (x, b) -> x.see(b, 0, 0), -1, 5);
        t.bad("the 7th, no such NIGHT", (x, n) -> x.see(0, n, 0), -1, 10);
        t.bad("the 7th, no such VILLAGE", (x, g) -> x.see(0, 0, g), -1, 4);
        ProofFine x = new ProofFine();
        Check.tell(x, "village 1 1;plain 0 0 0;");
        for (int i = 1; i <= 6; i++) {
            CHECK.due("see, how many are", x.see(0, 9, 0), i);
            CHECK.due("count(1)", x.count(1), i);
        }
        CHECK.due("see, FULL", x.see(0, 9, 0), FULL);
        x.forget(5);
        CHECK.due("room again", x.see(0, 9, 0), 6);
    }

    /** see: "AT a VILLAGE" that there is. */
    private static void seeByVillages() {
        for (int villages = 1; villages <= 3; villages++) {
            String row = "village 1 1;".repeat(villages);
            new Twin(CHECK, () -> Check.told(row + "plain 0 0 0;"))
                .bounds("see(0, 0, g) of " + villages, (x, g) -> x.see(0, 0, g), 0, 1, villages - 1, 1);
        }
    }

    /** forget: "SEEN are the first n alone: how many there were. BAD." */
    private static void forget() {
        RICH.bounds("forget", (x, n) -> x.forget(n), 0, 2, 2, 2);
        RICH.leaves("forget(2): all that there are", x -> x.forget(2), 2);
        EMPTY.bounds("forget of none", (x, n) -> x.forget(n), 0, 0, 0, 0);
        EMPTY.leaves("forget(0) of none", x -> x.forget(0), 0);
        new Twin(CHECK, () -> seen(6)).bounds("forget of six", (x, n) -> x.forget(n), 0, 6, 6, 6);
    }

    /** forget: "the first n": the latest go. */
    private static void forgetTheFirst() {
        ProofFine x = two();
        x.see(0, 0, 0);
        x.see(0, 1, 0);
        x.see(0, 1, 1);
        CHECK.due("all three fit none", x.kinds(0), 0);
        CHECK.due("forget(2)", x.forget(2), 3);
        CHECK.due("by the first two", x.kinds(0), 5);
        CHECK.due("forget(1)", x.forget(1), 2);
        CHECK.due("by the first", x.kinds(0), 15);
        CHECK.due("forget(0)", x.forget(0), 1);
        CHECK.due("none is SEEN", x.count(1), 0);
        CHECK.due("see anew", x.see(0, 1, 1), 1);
        CHECK.due("by what is SEEN anew", x.kinds(0), 10);
    }

    /** kinds: "KINDS of a BODY (bits) .. BAD." */
    private static void kindsBounds() {
        RICH.bounds("kinds", (x, b) -> x.kinds(b), 0, 15, 4, 8);
        EMPTY.bad("kinds of none", (x, b) -> x.kinds(b), 0, -1, 1);
        Twin t = new Twin(CHECK, SeenEdgesTest::two);
        t.leaves("nothing is SEEN: all four", x -> x.kinds(0), 15);
        ProofFine x = two();
        x.see(0, 0, 1);
        CHECK.due("none", x.kinds(0), 0);
    }

    /** SEEN "behind n NIGHTS (0 to 9)": WATCH 8 is run down behind 8; in the 9th one is carried. */
    private static void kindsByNights() {
        for (int n = 0; n <= 9; n++) {
            ProofFine x = Check.told("village 5 0;village 50 8;plain 0 2 0;round 9;");
            x.see(0, n, 0);
            CHECK.due("AT 0 behind " + n, x.kinds(0), n < 9 ? 15 : 5);
            x.forget(0);
            x.see(0, n, 1);
            CHECK.due("AT 1 behind " + n, x.kinds(0), n < 9 ? 0 : 10);
        }
    }

    /** kinds: "all else as it is, all is as SEEN": what is SEEN of another counts too. */
    private static void kindsOfOthers() {
        ProofFine x = Check.told("village 5 0;village 50 0;plain 0 2 0;plain 0 2 0;round 9;");
        // 0 pays for the first and has nothing for the second, unless the first is carried on
        x.see(1, 2, 1);
        CHECK.due("the second is carried if 5 were paid for the first", x.kinds(0), 5);
        x.forget(0);
        x.see(1, 2, 0);
        CHECK.due("the second is paid for if the first was carried", x.kinds(0), 10);
        CHECK.due("by no KIND of the second itself", x.kinds(1), 0);
    }

    /** One that lies no more is where it is by any KIND. */
    private static void kindsOfOneThatLiesNoMore() {
        for (int b = 0; b <= 1; b++) {
            for (int n : new int[] {0, 9}) {
                ProofFine x = Lands.rich();
                x.forget(0);
                x.see(b, n, b);
                CHECK.due("lies no more, there", x.kinds(b), 15);
                CHECK.due("lies no more, there: FATHER's", x.fathers(b), 1023);
                x.see(b, n, 3);
                CHECK.due("lies no more, elsewhere", x.kinds(b), 0);
                CHECK.due("lies no more, elsewhere: FATHER's", x.fathers(b), 0);
            }
        }
    }

    /** SEEN "from now on": it is asked from the DAY on which it is asked. */
    private static void seenFromNowOn() {
        ProofFine x = two();
        x.alter(0, 0, 1);
        x.see(0, 1, 0);
        CHECK.due("ahead of the NIGHT", x.kinds(0), 5);
        x.nights(1);
        CHECK.due("it is AT 1", x.body(0, 1), 1);
        CHECK.due("SEEN stays", x.count(1), 1);
        CHECK.due("behind the NIGHT", x.kinds(0), 0);
        x.nights(8);
        x.find(0, 0, 2, 0);
        CHECK.due("BODIES that came later are no matter", x.kinds(1), 0);
        x.forget(0);
        CHECK.due("nothing is SEEN", x.kinds(1), 15);
    }

    /** fathers: "FATHER's kin (0 to 9; bits) of a BODY .. BAD." */
    private static void fathersBounds() {
        RICH.bounds("fathers", (x, b) -> x.fathers(b), 0, 1023, 4, 3);
        EMPTY.bad("fathers of none", (x, b) -> x.fathers(b), 0, -1, 1);
        new Twin(CHECK, SeenEdgesTest::two).leaves("nothing is SEEN: all ten", x -> x.fathers(0), 1023);
    }

    /** fathers: 0 and 9, and the number from which one is paid for at 0. */
    private static void fathersLeastAndMost() {
        // cost is 5 for each that lacks; MEANS of 0 are 5; MOTHER's do not lack
        int[] needs = {2, 3, 3, 4};
        for (int kind = 0; kind < 4; kind++) {
            ProofFine x = two();
            x.alter(0, 0, kind);
            x.alter(0, 3, 2);
            x.see(0, 1, 0);
            int stays = 1023 & -(1 << needs[kind] - 1);
            CHECK.due("stays, KIND " + kind, x.fathers(0), stays);
            x.forget(0);
            x.see(0, 1, 1);
            CHECK.due("carried, KIND " + kind, x.fathers(0), 1023 & ~stays);
            x.see(0, 1, 0);
            CHECK.due("both, KIND " + kind, x.fathers(0), 0);
        }
    }

    /** The rich land where only the first is SEEN: body 4 is carried if it is mixed. */
    private static ProofFine unseen() {
        ProofFine x = Lands.rich();
        x.forget(1);
        return x;
    }

    /** look: a BODY, what 0, 1. "BAD; NONE: behind none." */
    private static void lookBounds() {
        RICH.bounds("look(b, 0)", (x, b) -> x.look(b, 0), 0, NONE, 4, NONE);
        RICH.bounds("look(4, what): BAD ahead of NONE", (x, what) -> x.look(4, what), 0, NONE, 1, NONE);
        Twin t = new Twin(CHECK, SeenEdgesTest::unseen);
        t.bounds("look(b, 0), one is SEEN", (x, b) -> x.look(b, 0), 0, NONE, 4, 1);
        t.bounds("look(4, what), one is SEEN", (x, what) -> x.look(4, what), 0, 1, 1, 3);
        EMPTY.bad("look of none", (x, b) -> x.look(b, 0), 0, -1, 1);
        EMPTY.bad("look of none, what", (x, what) -> x.look(0, what), 0, 1, -1, 2);
    }

    /** look: "fewest are left at the worst, fewer than now". */
    private static void lookFewerThanNow() {
        ProofFine x = two();
        CHECK.due("four, two and two: when", x.look(0, 0), 1);
        CHECK.due("four, two and two: how many", x.look(0, 1), 2);
        x.see(0, 1, 0);
        CHECK.due("two that go alike: when", x.look(0, 0), NONE);
        CHECK.due("two that go alike: how many", x.look(0, 1), NONE);
        x.see(0, 1, 1);
        CHECK.due("none is left: when", x.look(0, 0), NONE);
        CHECK.due("none is left: how many", x.look(0, 1), NONE);
        // three VILLAGES: plain and adopted stay at 0, river is paid for at 1, mixed is carried to 2
        x = Check.told("village 5 0;village 10 0;village 99 0;plain 0 2 0;round 9;");
        CHECK.due("two, one, one: when", x.look(0, 0), 1);
        CHECK.due("two, one, one: how many", x.look(0, 1), 2);
        // as many MOTHER's as may be: plain lacks none, river and adopted 1, mixed 2
        x = Check.told("village 5 0;village 50 0;plain 0 2 9;round 9;");
        CHECK.due("three and one: when", x.look(0, 0), 1);
        CHECK.due("three and one: how many", x.look(0, 1), 3);
        x.see(0, 9, 1);
        CHECK.due("one is left: when", x.look(0, 0), NONE);
        CHECK.due("one is left: how many", x.look(0, 1), NONE);
    }

    /** look: "the first": a later NIGHT that leaves as few is not told, one that leaves fewer is. */
    private static void lookTheFirst() {
        ProofFine x = Check.told("village 5 0;village 0 1;village 50 0;plain 0 2 0;round 9;");
        // WATCH of 1 is run down in the first NIGHT; from the second on river and mixed are elsewhere
        CHECK.due("when first", x.look(0, 0), 2);
        CHECK.due("how many", x.look(0, 1), 2);
        // all but plain are AT 1 behind the first, where a mixed one is not paid for; then WATCH of 2 is down
        x = Check.told("village 0 0;village 10 0;village 99 1;plain 0 2 1;round 9;");
        CHECK.due("two steps: behind the first", x.ahead(0, 1, 0), 0);
        CHECK.due("two steps: when", x.look(0, 0), 2);
        CHECK.due("two steps: how many", x.look(0, 1), 2);
        x.see(0, 1, 1);
        CHECK.due("two steps: KINDS that are AT 1", x.kinds(0), 14);
        CHECK.due("two steps: then when", x.look(0, 0), 2);
        CHECK.due("two steps: then how many", x.look(0, 1), 2);
    }

    /** look: of a BODY AT another VILLAGE than 0, asked behind one AT 0. */
    private static void lookElsewhere() {
        ProofFine x = Check.told("village 50 0;village 5 0;plain 1 2 0;plain 0 2 0;round 9;");
        CHECK.due("the one AT 0, paid for by any KIND: when", x.look(1, 0), NONE);
        // plain and adopted are paid for at 1, river and mixed are carried to 0
        CHECK.due("the one AT 1: when", x.look(0, 0), 1);
        CHECK.due("the one AT 1: how many", x.look(0, 1), 2);
        CHECK.due("the one AT 0 again: when", x.look(1, 0), NONE);
        x.see(0, 1, 1);
        CHECK.due("the one AT 1, those that stay: when", x.look(0, 0), NONE);
        x.forget(0);
        x.see(0, 1, 0);
        CHECK.due("the one AT 1, those that go: KINDS", x.kinds(0), 10);
        x = Check.told("village 99 0;village 5 0;village 50 0;plain 1 1 1;round 9;");
        // plain and adopted lack 1 and 2: plain alone is paid for at 1; all others at 2
        CHECK.due("plain alone stays: when", x.look(0, 0), 1);
        CHECK.due("plain alone stays: how many", x.look(0, 1), 3);
    }

    /** look: "Behind how many NIGHTS (0 to 9)": the 9th is the last; behind 0 all KINDS are where it is. */
    private static void lookNightNine() {
        ProofFine x = Check.told("village 5 0;village 50 8;plain 0 2 0;round 9;");
        CHECK.due("WATCH 8: when", x.look(0, 0), 9);
        CHECK.due("WATCH 8: how many", x.look(0, 1), 2);
        x.grant(1, 1, 7);
        CHECK.due("WATCH 7: when", x.look(0, 0), 8);
        x.grant(1, 1, 9);
        CHECK.due("WATCH 9: when", x.look(0, 0), NONE);
        CHECK.due("WATCH 9: how many", x.look(0, 1), NONE);
        x.grant(1, 1, 0);
        CHECK.due("WATCH 0: when", x.look(0, 0), 1);
    }

    private static void asksAlone() {
        for (int b = 0; b < 5; b++) {
            int who = b;
            RICH.leaves("kinds(" + b + ")", x -> x.kinds(who));
            RICH.leaves("fathers(" + b + ")", x -> x.fathers(who));
            RICH.leaves("look(" + b + ", 0)", x -> x.look(who, 0));
            RICH.leaves("look(" + b + ", 1)", x -> x.look(who, 1));
        }
        Twin t = new Twin(CHECK, SeenEdgesTest::unseen);
        t.leaves("look(4, 0)", x -> x.look(4, 0), 1);
        t.leaves("look(4, 1)", x -> x.look(4, 1), 3);
        t.leaves("look(5, 0)", x -> x.look(5, 0), BAD);
    }
}
