/** Promises 27 to 31: see, forget, kinds, fathers, look. */
public final class SeenTest {
    private static final Check CHECK = new Check("SeenTest");
    private static final int BAD = ProofFine.BAD, FULL = ProofFine.FULL, NONE = ProofFine.NONE;

    public static void main(String[] args) {
        list();
        kinds();
        fathers();
        look();
        lookLater();
        CHECK.end();
    }

    /** A plain or an adopted one is paid for at 0, a river or a mixed one is carried to 1. */
    private static ProofFine two() {
        return Check.told("village 5 0;village 50 0;plain 0 2 0;round 9;");
    }

    private static void list() {
        ProofFine x = two();
        CHECK.due("see(1, 0, 0)", x.see(1, 0, 0), BAD);
        CHECK.due("see(-1, 0, 0)", x.see(-1, 0, 0), BAD);
        CHECK.due("see(0, -1, 0)", x.see(0, -1, 0), BAD);
        CHECK.due("see(0, 10, 0)", x.see(0, 10, 0), BAD);
        CHECK.due("see(0, 0, 2)", x.see(0, 0, 2), BAD);
        CHECK.due("see(0, 0, -1)", x.see(0, 0, -1), BAD);
        for (int i = 1; i <= 6; i++) {
            CHECK.due("see, the " + i + "th", x.see(0, 9, 0), i);
        }
        CHECK.due("see, the 7th", x.see(0, 9, 0), FULL);
        CHECK.due("see, the 7th, no such BODY", x.see(1, 9, 0), BAD);
        CHECK.due("count(1)", x.count(1), 6);
        CHECK.due("forget(7)", x.forget(7), BAD);
        CHECK.due("forget(-1)", x.forget(-1), BAD);
        CHECK.due("forget(6)", x.forget(6), 6);
        CHECK.due("forget(2)", x.forget(2), 6);
        CHECK.due("forget(3)", x.forget(3), BAD);
        CHECK.due("forget(0)", x.forget(0), 2);
        CHECK.due("forget(0) again", x.forget(0), 0);
        CHECK.due("see again", x.see(0, 0, 0), 1);
    }

    private static void kinds() {
        ProofFine x = two();
        CHECK.due("kinds(0): nothing is SEEN", x.kinds(0), 15);
        x.see(0, 0, 0);
        CHECK.due("kinds(0): where it is now", x.kinds(0), 15);
        x.see(0, 1, 0);
        CHECK.due("kinds(0): still at 0", x.kinds(0), 5);
        x.forget(1);
        x.see(0, 9, 1);
        CHECK.due("kinds(0): at 1", x.kinds(0), 10);
        x.see(0, 1, 0);
        CHECK.due("kinds(0): none fits all", x.kinds(0), 0);
        x.forget(0);
        x.see(0, 0, 1);
        CHECK.due("kinds(0): it is not there now", x.kinds(0), 0);
        CHECK.due("kinds(1)", x.kinds(1), BAD);
        CHECK.due("kinds(-1)", x.kinds(-1), BAD);
        CHECK.due("KIND stays", x.body(0, 0), 0);
        x = two();
        x.find(0, 1, 2, 1);
        x.see(0, 1, 0);
        CHECK.due("kinds(1): another is SEEN", x.kinds(1), 15);
        x.alter(0, 0, 1);
        CHECK.due("kinds(1): another is not as SEEN", x.kinds(1), 0);
        CHECK.due("kinds(0): all else as it is", x.kinds(0), 5);
        x.nights(1);
        CHECK.due("kinds(0): from now on it is at 1", x.kinds(0), 0);
    }

    private static void fathers() {
        ProofFine x = two();
        CHECK.due("fathers(0): nothing is SEEN", x.fathers(0), 1023);
        x.see(0, 1, 0);
        CHECK.due("fathers(0): MOTHER's one is paid for", x.fathers(0), 1020);
        x.alter(0, 3, 1);
        CHECK.due("fathers(0): one of FATHER's may be paid for", x.fathers(0), 1022);
        x.alter(0, 0, 3);
        CHECK.due("fathers(0) of a mixed one", x.fathers(0), 1008);
        x.alter(0, 3, 2);
        CHECK.due("fathers(0) of a mixed one, MOTHER's are enough", x.fathers(0), 1016);
        x.forget(0);
        x.see(0, 1, 1);
        CHECK.due("fathers(0): carried", x.fathers(0), 7);
        CHECK.due("fathers(1)", x.fathers(1), BAD);
        CHECK.due("fathers(-1)", x.fathers(-1), BAD);
        CHECK.due("FATHER's stay", x.body(0, 2), 2);
    }

    private static void look() {
        ProofFine x = two();
        CHECK.due("look(0, 0)", x.look(0, 0), 1);
        CHECK.due("look(0, 1)", x.look(0, 1), 2);
        x.see(0, 1, 1);
        CHECK.due("look(0, 0): river and mixed go alike", x.look(0, 0), NONE);
        CHECK.due("look(0, 1): river and mixed go alike", x.look(0, 1), NONE);
        CHECK.due("look(0, 2)", x.look(0, 2), BAD);
        CHECK.due("look(0, -1)", x.look(0, -1), BAD);
        CHECK.due("look(1, 0)", x.look(1, 0), BAD);
        CHECK.due("look(-1, 0)", x.look(-1, 0), BAD);
        x.forget(0);
        x.see(0, 0, 1);
        CHECK.due("look(0, 0): no KIND is left", x.look(0, 0), NONE);
    }

    /** LACKS are 1 (plain), 2 (river), 1 (adopted), 4 (mixed): where each can be paid for first. */
    private static void lookLater() {
        ProofFine x = Check.told("village 5 0;village 10 2;village 99 0;plain 0 2 0;round 9;");
        // the watch of 1 is down behind two nights; carried to 1 in the third, on to 2 in the same
        CHECK.due("behind 2 nights", x.ahead(0, 2, 0), 0);
        CHECK.due("look(0, 0): the third night", x.look(0, 0), 3);
        CHECK.due("look(0, 1)", x.look(0, 1), 2);
        x.see(0, 3, 1);
        CHECK.due("kinds(0): river alone", x.kinds(0), 2);
        x.forget(0);
        x.see(0, 4, 2);
        CHECK.due("kinds(0): mixed alone", x.kinds(0), 8);
        CHECK.due("look(0, 0): one is never fewer", x.look(0, 0), NONE);
        x = Check.told("village 5 0;village 50 8;plain 0 2 0;round 9;");
        CHECK.due("look(0, 0): the last night", x.look(0, 0), 9);
        CHECK.due("look(0, 1): the last night", x.look(0, 1), 2);
        x.grant(1, 1, 9);
        CHECK.due("look(0, 0): too late", x.look(0, 0), NONE);
    }
}
