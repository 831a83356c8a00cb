/** Promises 1 to 5: a new object, feed, end, text, fault. */
public final class TextTest {
    private static final Check CHECK = new Check("TextTest");

    public static void main(String[] args) {
        newObject();
        tape();
        lines();
        noToken();
        noPlace();
        bounds();
        twice();
        tooMany();
        noVillage();
        firstMet();
        taken();
        refused();
        CHECK.end();
    }

    private static void newObject() {
        ProofFine x = new ProofFine();
        int[] rules = {0, 0, 5, 46, 5, 0, 0, 0, 0, 0};
        for (int what = 0; what < rules.length; what++) {
            CHECK.due("new: rule(" + what + ")", x.rule(what), rules[what]);
        }
        int[] counts = {0, 0, 0, 0, ProofFine.NONE, 0};
        for (int what = 0; what < counts.length; what++) {
            CHECK.due("new: count(" + what + ")", x.count(what), counts[what]);
        }
        CHECK.due("new: fault()", x.fault(), 0);
        CHECK.due("new: torn()", x.torn(), 0);
        for (int k = 0; k < 4; k++) {
            CHECK.due("new: lay(" + k + ", 0, 0)", x.lay(k, 0, 0), -11);
        }
        CHECK.due("new: village(0, 0)", x.village(0, 0), ProofFine.BAD);
        CHECK.due("new: body(0, 0)", x.body(0, 0), ProofFine.BAD);
    }

    private static void tape() {
        ProofFine x = new ProofFine();
        CHECK.due("feed(-1)", x.feed(-1), ProofFine.BAD);
        CHECK.due("feed(128)", x.feed(128), ProofFine.BAD);
        CHECK.due("feed(0)", x.feed(0), 1);
        CHECK.due("feed(127)", x.feed(127), 2);
        CHECK.due("end(3)", x.end(3), ProofFine.BAD);
        CHECK.due("end(-1)", x.end(-1), ProofFine.BAD);
        CHECK.due("end(2)", x.end(2), 2);
        CHECK.due("end(1)", x.end(1), 2);
        CHECK.due("count(3)", x.count(3), 1);
        CHECK.due("end(0)", x.end(0), 1);
        for (int i = 1; i <= 160; i++) {
            CHECK.due("feed(32), the " + i + "th", x.feed(32), i);
        }
        CHECK.due("feed(32), the 161st", x.feed(32), ProofFine.FULL);
        CHECK.due("feed(200) on a full tape", x.feed(200), ProofFine.BAD);
        CHECK.due("count(3) of a full tape", x.count(3), 160);
        CHECK.due("end(160)", x.end(160), 160);
        CHECK.due("end(161)", x.end(161), ProofFine.BAD);
        CHECK.due("text() of blanks", x.text(), 0);
        CHECK.due("count(3) behind text()", x.count(3), 0);
        CHECK.due("end(0) of nothing", x.end(0), 0);
    }

    private static void lines() {
        answers("", 0, 0);
        answers("   ", 0, 0);
        answers("village 0 0;", 1, 0);
        answers("village99 9;", 1, 0);
        answers(" village  00 09 ; ", 1, 0);
        answers("plain 0 9 9;village 0 0;", 2, 0);
        answers("price20;fine60;round9;", 3, 0);
        answers("price 0;fine 0;round 1;", 3, 0);
        answers("village 1 1;plain 0 0 0;river 0 0 0;adopted 0 0 0;mixed 0 0 0;", 5, 0);
    }

    private static void noToken() {
        answers("$", -10, 1);
        answers("  Village 0 0;", -12, 1);
        answers("price 5;" + (char) 9, -18, 1);
        answers("price -5;", -16, 1);
        answers("price 005;", -16, 1);
        answers("price 5 $;", -18, 1);
        answers("123;", -10, 1);
        answers("price 5 123;", -18, 1);
        answers("price,5;", -15, 1);
    }

    private static void noPlace() {
        answers(";", -10, 2);
        answers("5;", -10, 2);
        answers("house 1 1;", -10, 2);
        answers("villag 1 1;", -10, 2);
        answers("villages 1 1;", -10, 2);
        answers("price", -15, 2);
        answers("price  ", -17, 2);
        answers("price 5", -17, 2);
        answers("price 5  ", -19, 2);
        answers("price 5 6;", -18, 2);
        answers("price five;", -16, 2);
        answers("price ;", -16, 2);
        answers("village 1;", -19, 2);
        answers("village 1 1 1;", -22, 2);
        answers("plain 0 0;", -19, 2);
        answers("price 5 fine 5;", -18, 2);
        answers("price 5;;", -18, 2);
    }

    private static void bounds() {
        answers("village 99 10;", -21, 3);
        answers("village 0 9;plain 4 0 0;", -28, 3);
        answers("river 0 10 0;", -18, 3);
        answers("adopted 0 0 10;", -22, 3);
        answers("mixed 3 9 99;", -20, 3);
        answers("price 21;", -16, 3);
        answers("fine 61;", -15, 3);
        answers("round 0;", -16, 3);
        answers("round 00;", -16, 3);
        answers("round 10;", -16, 3);
    }

    private static void twice() {
        answers("price 5;price 5;", -18, 4);
        answers("fine 5;price 5;fine 5;", -25, 4);
        answers("round 5;round", -18, 4);
        answers("price 5;pric 5;", -18, 2);
    }

    private static void tooMany() {
        answers("village 0 0;village 0 0;village 0 0;village 0 0;", 4, 0);
        answers("village 0 0;village 0 0;village 0 0;village 0 0;village", -58, 5);
        String six = "village 0 0;plain 0 0 0;river 0 0 0;adopted 0 0 0;mixed 0 0 0;plain 0 0 0;river 0 0 0;";
        answers(six, 7, 0);
        answers(six + "mixed 9", -10 - six.length(), 5);
        answers(six + "plain", -10 - six.length(), 5);
        answers(six + "price 5;", 8, 0);
        answers(six + "village 0 0;", 8, 0);
    }

    private static void noVillage() {
        answers("plain 0 0 0;", -22, 6);
        answers("plain 0 0 0; ", -23, 6);
        answers("village 0 0;plain 1 0 0;", -34, 6);
        answers("plain 1 0 0;village 0 0;village 0 0;", 3, 0);
        answers("plain 3 0 0;village 0 0;village 0 0;village 0 0;", -58, 6);
    }

    private static void firstMet() {
        answers("price 21 $", -16, 3);
        answers("price 5;price $", -18, 4);
        answers("plain 0 0 0;price 21;", -28, 3);
        answers("plain 0 0 0;$", -22, 1);
        answers("plain 0 0 0;fine", -26, 2);
    }

    private static void taken() {
        ProofFine x = Check.told("village 30 2;village 7 1;river 1 2 0;mixed 0 4 3;price 6;fine 30;round 3;");
        int[] rules = {2, 2, 6, 30, 3, 0, 3, 0, 0, 0};
        for (int what = 0; what < rules.length; what++) {
            CHECK.due("taken: rule(" + what + ")", x.rule(what), rules[what]);
        }
        int[][] bodies = {{1, 1, 2, 0, 0, 2}, {3, 0, 4, 3, 0, 0}};
        for (int b = 0; b < 2; b++) {
            for (int what = 0; what < 6; what++) {
                CHECK.due("taken: body(" + b + ", " + what + ")", x.body(b, what), bodies[b][what]);
            }
        }
        CHECK.due("taken: village(0, 0)", x.village(0, 0), 30);
        CHECK.due("taken: village(0, 1)", x.village(0, 1), 2);
        CHECK.due("taken: village(1, 0)", x.village(1, 0), 7);
        CHECK.due("taken: village(1, 1)", x.village(1, 1), 1);
        x.set(4, 1);
        x.nights(3);
        x.see(0, 0, 0);
        x.keep(1);
        x.sheet(0, 1, 7);
        x.read(0, 2, 0, 1);
        CHECK.due("taken: rule(9) ahead", x.rule(9), 2);
        CHECK.due("an empty text is taken", x.text(), 0);
        int[] none = {0, 0, 5, 46, 5, 0, 0, 0, 0, 0};
        for (int what = 0; what < none.length; what++) {
            CHECK.due("behind an empty text: rule(" + what + ")", x.rule(what), none[what]);
        }
        CHECK.due("nothing is SEEN", x.count(1), 0);
        CHECK.due("IMAGES are gone", x.count(2), 0);
        CHECK.due("IMAGE 1 is gone", x.back(1), ProofFine.STATE);
        CHECK.due("SHEETS stay", x.count(4), 7);
        CHECK.due("torn() stays", x.torn(), 3);
    }

    private static void refused() {
        ProofFine x = Check.told("village 30 2;river 0 2 0;price 6;");
        x.nights(1);
        x.see(0, 1, 0);
        x.keep(0);
        CHECK.due("a text with a FAULT", Check.tell(x, "village 1 1;price 7;fine 99;"), -35);
        CHECK.due("its fault()", x.fault(), 3);
        CHECK.due("the tape is empty", x.count(3), 0);
        CHECK.due("DAY stays", x.rule(5), 1);
        CHECK.due("PRICE stays", x.rule(2), 6);
        CHECK.due("MEANS stay", x.count(0), 18);
        CHECK.due("SEEN stay", x.count(1), 1);
        CHECK.due("IMAGES stay", x.count(2), 1);
        CHECK.due("fault() stays", x.fault(), 3);
        CHECK.due("a good text", Check.tell(x, "price 1;"), 1);
        CHECK.due("fault() is 0 then", x.fault(), 0);
    }

    private static void answers(String text, int want, int fault) {
        ProofFine x = new ProofFine();
        CHECK.due("text of \"" + text + "\"", Check.tell(x, text), want);
        CHECK.due("fault of \"" + text + "\"", x.fault(), fault);
    }
}
