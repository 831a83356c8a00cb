/** Promises 18 to 24: dear, mild, watch, place, kin, late, order. */
public final class BestTest {
    private static final Check CHECK = new Check("BestTest");
    private static final int BAD = ProofFine.BAD, STATE = ProofFine.STATE, NONE = ProofFine.NONE;

    public static void main(String[] args) {
        dear();
        mild();
        watch();
        place();
        kin();
        late();
        order();
        bounds();
        CHECK.end();
    }

    private static void dear() {
        ProofFine x = Check.told("village 12 0;plain 0 0 0;round 9;price 20;");
        CHECK.due("dear(0)", x.dear(0), 20);
        CHECK.due("dear(1): by MEANS", x.dear(1), 4);
        x.set(3, 10);
        CHECK.due("dear(1): by FINE", x.dear(1), 3);
        x.set(3, 0);
        CHECK.due("dear(5): none is proved by any", x.dear(5), 20);
        CHECK.due("PRICE stays", x.rule(2), 20);
        x = Check.told("village 40 0;plain 0 0 1;plain 0 0 1;round 9;");
        CHECK.due("dear(1): one is taken", x.dear(1), 20);
        CHECK.due("dear(2): two of 2 each", x.dear(2), 10);
        CHECK.due("dear(20)", x.dear(20), 10);
    }

    private static void mild() {
        ProofFine x = Check.told("village 20 0;plain 0 0 0;price 20;round 2;");
        CHECK.due("mild(1)", x.mild(1), 60);
        CHECK.due("mild(2)", x.mild(2), 20);
        CHECK.due("mild(20)", x.mild(20), 20);
        x.set(2, 6);
        CHECK.due("mild(2): a high FINE makes kin cheap", x.mild(2), 60);
        x.set(2, 7);
        CHECK.due("mild(2): too dear for MEANS", x.mild(2), 20);
        x.grant(0, 0, 0);
        CHECK.due("mild(2): nothing to take", x.mild(2), 0);
        CHECK.due("FINE stays", x.rule(3), 46);
        x.nights(2);
        CHECK.due("mild(2): RUINED before", x.mild(2), 60);
    }

    private static void watch() {
        ProofFine x = Check.told("village 0 0;village 50 0;village 0 0;village 50 0;plain 0 0 0;plain 2 0 0;");
        CHECK.due("watch(1, 0): of several the first", x.watch(1, 0), 1);
        CHECK.due("watch(1, 1)", x.watch(1, 1), 15);
        x.find(0, 2, 0, 0);
        CHECK.due("watch(2, 0)", x.watch(2, 0), 3);
        CHECK.due("watch(2, 1)", x.watch(2, 1), 30);
        CHECK.due("watch(0, 0)", x.watch(0, 0), NONE);
        CHECK.due("watch(0, 1)", x.watch(0, 1), NONE);
        x.grant(1, 1, 9);
        x.grant(3, 1, 9);
        CHECK.due("watch(1, 0): it is 9 already", x.watch(1, 0), NONE);
        CHECK.due("WATCH stays", x.village(0, 1), 0);
        CHECK.due("watch(3, 0) without villages", new ProofFine().watch(3, 0), NONE);
    }

    private static void place() {
        ProofFine x = Check.told("village 60 5;village 0 5;plain 0 0 0;price 20;round 1;");
        CHECK.due("place(0, 1, 0)", x.place(0, 1, 0), 1);
        CHECK.due("place(0, 1, 1)", x.place(0, 1, 1), 0);
        CHECK.due("place(0, 0, 0): of several the first", x.place(0, 0, 0), 0);
        x.grant(1, 0, 20);
        CHECK.due("place(0, 1, 0): RUINED pays least", x.place(0, 1, 0), 1);
        CHECK.due("place(0, 1, 1)", x.place(0, 1, 1), 20);
        CHECK.due("AT stays", x.body(0, 1), 0);
        x.nights(1);
        CHECK.due("place(0, 1, 0): it lies no more", x.place(0, 1, 0), STATE);
        CHECK.due("place(0, 21, 0): BAD first", x.place(0, 21, 0), BAD);
    }

    private static void kin() {
        ProofFine x = Check.told("village 50 0;plain 0 1 1;plain 0 0 1;round 9;");
        CHECK.due("kin(2, 0): of several the first", x.kin(2, 0), 0);
        CHECK.due("kin(2, 1)", x.kin(2, 1), 10);
        CHECK.due("kin(1, 0)", x.kin(1, 0), 0);
        CHECK.due("kin(1, 1)", x.kin(1, 1), 0);
        CHECK.due("kin(0, 0)", x.kin(0, 0), NONE);
        CHECK.due("kin(0, 1)", x.kin(0, 1), NONE);
        x.alter(0, 2, 9);
        CHECK.due("kin(2, 0): the other", x.kin(2, 0), 1);
        CHECK.due("kin(2, 1): the other", x.kin(2, 1), 5);
        x.alter(1, 2, 2);
        x.alter(1, 3, 0);
        CHECK.due("kin(2, 0): MOTHER's alone are lacking", x.kin(2, 0), NONE);
        x = Check.told("village 50 0;plain 0 1 1;round 9;");
        x.nights(1);
        CHECK.due("kin(2, 0): none lies", x.kin(2, 0), NONE);
        CHECK.due("kin(2, 0) without bodies", new ProofFine().kin(2, 0), NONE);
    }

    private static void late() {
        ProofFine x = Check.told("village 60 0;plain 0 0 0;price 20;round 1;");
        int[] want = {1, 2, 3, 4, 5, 6, 7, 8, 9, 1, 1};
        for (int n = 0; n < want.length; n++) {
            CHECK.due("late(" + n + ")", x.late(n), want[n]);
        }
        CHECK.due("ROUND stays", x.rule(4), 1);
        x = Check.told("village 60 0;plain 0 0 0;price 20;round 9;");
        x.nights(3);
        CHECK.due("late(1) at DAY 3", x.late(1), 3);
        CHECK.due("late(2) at DAY 3", x.late(2), 3);
        CHECK.due("late(3) at DAY 3", x.late(3), 7);
        CHECK.due("late(1) without villages", new ProofFine().late(1), 1);
    }

    private static void order() {
        ProofFine x = Check.told("village 30 0;village 0 0;plain 1 0 0;fine 16;round 1;");
        CHECK.due("runs(1, 0)", x.runs(1, 0), 16);
        CHECK.due("order(1, 0)", x.order(1, 0), 15);
        CHECK.due("order(1, 10)", x.order(1, 10), 1);
        CHECK.due("order(1, 11)", x.order(1, 11), 0);
        CHECK.due("order(1, 12)", x.order(1, 12), NONE);
        CHECK.due("order(1, 13)", x.order(1, 13), NONE);
        CHECK.due("order(0, 0)", x.order(0, 0), 0);
        CHECK.due("order(0, 10): the first by numbers", x.order(0, 10), 0);
        CHECK.due("order(0, 11): the first by numbers", x.order(0, 11), 1);
        CHECK.due("runs(1, 0) is as it was", x.runs(1, 0), 16);
        // 3 is to take its own ahead of 0, which can pay for kin and else pays a fine
        x = Check.told("village 99 0;village 0 0;village 0 0;village 0 0;plain 3 0 0;fine 50;round 1;");
        CHECK.due("order(1, 0) of four", x.order(1, 0), 15);
        int[] want = {1, 2, 3, 0};
        for (int i = 0; i < 4; i++) {
            CHECK.due("order(1, 1" + i + ") of four", x.order(1, 10 + i), want[i]);
        }
        CHECK.due("order(1, 14) of four", x.order(1, 14), NONE);
        CHECK.due("order(1, 10) without villages", new ProofFine().order(1, 10), NONE);
        CHECK.due("order(1, 0) without villages", new ProofFine().order(1, 0), 0);
    }

    private static void bounds() {
        ProofFine x = Check.told("village 60 5;village 0 5;plain 0 0 0;price 20;round 1;");
        for (int n : new int[] {-1, 21, Integer.MIN_VALUE, Integer.MAX_VALUE}) {
            CHECK.due("dear(" + n + ")", x.dear(n), BAD);
            CHECK.due("mild(" + n + ")", x.mild(n), BAD);
            CHECK.due("watch(" + n + ", 0)", x.watch(n, 0), BAD);
            CHECK.due("place(0, " + n + ", 0)", x.place(0, n, 0), BAD);
            CHECK.due("kin(" + n + ", 0)", x.kin(n, 0), BAD);
            CHECK.due("late(" + n + ")", x.late(n), BAD);
            CHECK.due("order(" + n + ", 0)", x.order(n, 0), BAD);
        }
        for (int what : new int[] {-1, 2}) {
            CHECK.due("watch(0, " + what + ")", x.watch(0, what), BAD);
            CHECK.due("place(0, 0, " + what + ")", x.place(0, 0, what), BAD);
            CHECK.due("kin(0, " + what + ")", x.kin(0, what), BAD);
        }
        for (int what : new int[] {-1, 1, 9}) {
            CHECK.due("order(0, " + what + ")", x.order(0, what), BAD);
        }
        CHECK.due("place(1, 0, 0)", x.place(1, 0, 0), BAD);
        CHECK.due("place(-1, 0, 0)", x.place(-1, 0, 0), BAD);
        CHECK.holds("20 NIGHTS are taken", x.dear(20) >= 0 && x.mild(20) >= 0 && x.place(0, 20, 0) >= 0
            && x.late(20) > 0 && x.order(20, 0) >= 0);
    }
}
