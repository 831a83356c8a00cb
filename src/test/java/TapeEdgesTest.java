/** Boundaries of THE TAPE, its TOKENS, lines and FAULTS, and of promises 1 to 5. */
public final class TapeEdgesTest {
    private static final Check CHECK = new Check("TapeEdgesTest");
    private static final int BAD = ProofFine.BAD, FULL = ProofFine.FULL, STATE = ProofFine.STATE;
    private static final String[] BODY_LINES = {"plain", "river", "adopted", "mixed"};
    private static final String[] RULE_LINES = {"price", "fine", "round"};
    private static final int[] MOST_OF_RULE = {20, 60, 9};
    private static final String FOUR_VILLAGES = "village 1 1;village 2 2;village 3 3;village 4 4;";

    public static void main(String[] args) {
        newObject();
        bytesFed();
        tapeFull();
        tapeCut();
        emptyText();
        longestText();
        placesOfFaults();
        everyByte();
        bytesBesideTokens();
        blanksBetween();
        tokensAsLongAsMayBe();
        namesOfNoLine();
        figures();
        howManyNumbers();
        meansAndWatchOutOfBounds();
        bodyOutOfBounds();
        rulesOutOfBounds();
        rulesTwice();
        fifthVillage();
        seventhBody();
        noSuchVillage();
        theFirstMet();
        faultIsOfTheLatest();
        takenTellsAll();
        refusedLeavesAll();
        CHECK.end();
    }

    /** "No VILLAGES, no BODIES; SHEETS of nothing." With what holds at first. */
    private static void newObject() {
        Twin t = new Twin(CHECK, ProofFine::new);
        t.bad("new: village of", (x, v) -> x.village(v, 0), 0, -1, 1);
        t.bad("new: body of", (x, b) -> x.body(b, 0), 0, -1, 1);
        t.answers("new: VILLAGES", x -> x.rule(0), 0);
        t.answers("new: BODIES", x -> x.rule(1), 0);
        t.answers("new: PRICE", x -> x.rule(2), 5);
        t.answers("new: FINE", x -> x.rule(3), 46);
        t.answers("new: ROUND", x -> x.rule(4), 5);
        t.answers("new: DAY", x -> x.rule(5), 0);
        for (int k = 0; k < 4; k++) {
            int sheet = k;
            t.leaves("new: SHEET " + k, x -> x.lay(sheet, 0, 0), -11);
        }
        t.leaves("new: IMAGE 0", x -> x.back(0), STATE);
        t.leaves("new: IMAGE 1", x -> x.back(1), STATE);
        t.leaves("new: fault()", ProofFine::fault, 0);
        t.leaves("new: torn()", ProofFine::torn, 0);
    }

    /** feed: "A byte (0 to 127) comes behind THE TAPE: how many it has. BAD". */
    private static void bytesFed() {
        Twin t = new Twin(CHECK, Lands::rich);
        t.bounds("feed", (x, c) -> x.feed(c), 0, 9, 127, 9);
        t.bad("feed", (x, c) -> x.feed(c), 255, 256, -128);
        t = new Twin(CHECK, ProofFine::new);
        t.bounds("feed, the first", (x, c) -> x.feed(c), 0, 1, 127, 1);
    }

    /** Blanks and a line at the very end of what THE TAPE holds. */
    private static ProofFine fed(int bytes) {
        ProofFine x = new ProofFine();
        Lands.feed(x, " ".repeat(bytes - 8) + "price 9;");
        return x;
    }

    /** "THE TAPE has 160 bytes"; feed: "FULL: more than 160". */
    private static void tapeFull() {
        new Twin(CHECK, () -> fed(158)).answers("the 159th byte", x -> x.feed(32), 159);
        new Twin(CHECK, () -> fed(159)).answers("the 160th byte", x -> x.feed(32), 160);
        Twin t = new Twin(CHECK, () -> fed(160));
        t.leaves("the 161st byte", x -> x.feed(32), FULL);
        t.leaves("the 161st byte, 0", x -> x.feed(0), FULL);
        t.leaves("the 161st byte, 127", x -> x.feed(127), FULL);
        t.leaves("the 161st byte, which is none: BAD is first", x -> x.feed(128), BAD);
        t.leaves("the 161st byte, below 0: BAD is first", x -> x.feed(-1), BAD);
        ProofFine x = fed(160);
        x.feed('5');
        CHECK.due("a full tape is read to its end", x.text(), 1);
        CHECK.due("PRICE by its last bytes", x.rule(2), 9);
        CHECK.due("there is room again", x.feed(32), 1);
        x = fed(160);
        x.end(159);
        CHECK.due("room for one", x.feed(';'), 160);
        CHECK.due("and for no more", x.feed(';'), FULL);
    }

    /** end: "THE TAPE keeps its first n bytes: how many it had. BAD." */
    private static void tapeCut() {
        Twin t = new Twin(CHECK, Lands::rich);
        t.bounds("end", (x, n) -> x.end(n), 0, 8, 8, 8);
        t.leaves("end of all that it has", x -> x.end(8), 8);
        t = new Twin(CHECK, () -> fed(160));
        t.bounds("end of a full tape", (x, n) -> x.end(n), 0, 160, 160, 160);
        t = new Twin(CHECK, ProofFine::new);
        t.bounds("end of an empty tape", (x, n) -> x.end(n), 0, 0, 0, 0);
        ProofFine x = Lands.rich();
        CHECK.due("end(7)", x.end(7), 8);
        CHECK.due("bytes then", x.count(3), 7);
        CHECK.due("the first 7 alone are read", x.text(), -17);
        x = Lands.rich();
        x.end(6);
        Lands.feed(x, "19;");
        CHECK.due("fed behind the first 6", x.text(), 1);
        CHECK.due("PRICE then", x.rule(2), 19);
        x = Lands.rich();
        CHECK.due("end(0)", x.end(0), 8);
        CHECK.due("no bytes then", x.count(3), 0);
        CHECK.due("no lines then", x.text(), 0);
    }

    /** "text: { line }": no line is a text too, and tells that there is nothing. */
    private static void emptyText() {
        answers("", 0, 0);
        answers(" ", 0, 0);
        answers(" ".repeat(160), 0, 0);
        ProofFine x = Lands.rich();
        x.end(0);
        CHECK.due("an empty text", x.text(), 0);
        int[] first = {0, 0, 5, 46, 5, 0, 0, 0, 0, 0};
        for (int what = 0; what <= 9; what++) {
            CHECK.due("behind an empty text: rule(" + what + ")", x.rule(what), first[what]);
        }
    }

    /** All lines that there may be: 4 villages, 6 bodies, price, fine, round. */
    private static void longestText() {
        String text = "village1 1;".repeat(4) + "plain3 0 0;".repeat(6) + "price0;fine0;round1;";
        answers(text, 13, 0);
        answers(text + " ".repeat(160 - text.length()), 13, 0);
        answers(text + "price", -10 - text.length(), 4);
        answers("price 1;", 1, 0);
        answers("price 1;fine 1;", 2, 0);
    }

    /** text: "-10 less the place of its FAULT", "places from 0", "the end: the length". */
    private static void placesOfFaults() {
        answers("$", -10, 1);
        answers(" $", -11, 1);
        answers(" ".repeat(159) + "$", -169, 1);
        answers(" ".repeat(159) + ";", -169, 2);
        answers(" ".repeat(155) + "price", -170, 2);
        answers(" ".repeat(153) + "price 5", -170, 2);
        answers(" ".repeat(152) + "price 5;", 1, 0);
        answers("price 5;" + " ".repeat(151) + "5", -169, 2);
        answers("plain 0 0 0;" + " ".repeat(148), -170, 6);
        answers("price", -15, 2);
        answers("price ", -16, 2);
        answers("price 5 ", -18, 2);
    }

    /** Every byte alone: a blank is nothing, a TOKEN can not stand there, the others are no TOKEN. */
    private static void everyByte() {
        for (int c = 0; c <= 127; c++) {
            boolean token = c >= 'a' && c <= 'z' || c >= '0' && c <= '9' || c == ';';
            ProofFine x = new ProofFine();
            x.feed(c);
            CHECK.due("text of byte " + c, x.text(), c == 32 ? 0 : -10);
            CHECK.due("fault of byte " + c, x.fault(), c == 32 ? 0 : token ? 2 : 1);
        }
    }

    /** "NAMES (a .. z), NUMBERS (1 or 2 figures), one ;": the bytes just beside those. */
    private static void bytesBesideTokens() {
        answers("price 5;a", -18, 2);
        answers("price 5;z", -18, 2);
        for (char c : new char[] {'a' - 1, 'z' + 1, 'A', 'Z', '0' - 1, '9' + 1, ';' + 1, 31, 33, 0, 9, 10, 127}) {
            answers("price 5;" + c, -18, 1);
            answers("price" + c + "5;", -15, 1);
            answers("price 5" + c, -17, 1);
            answers("pri" + c + "ce 5;", -10, 2);
        }
        answers("price 0;", 1, 0);
        answers("price 9;", 1, 0);
        answers("price 09;", 1, 0);
    }

    /** "blanks (32) between": none, one, several; ahead of all and behind all. */
    private static void blanksBetween() {
        answers("village1 2;plain0 1 2;price3;", 3, 0);
        answers("village 1 2 ; plain 0 1 2 ; price 3 ;", 3, 0);
        answers("   village   1   2   ;   plain   0   1   2   ;   ", 2, 0);
        answers("village 12;", -20, 2);
        answers("village 1 2;", 1, 0);
        answers("vill age 1 2;", -10, 2);
        answers("price 1 2;", -18, 2);
    }

    /** "TOKENS, each as long as may be". */
    private static void tokensAsLongAsMayBe() {
        answers("pricefine 5;", -10, 2);
        answers("pric 5;", -10, 2);
        answers("prices 5;", -10, 2);
        answers("p", -10, 2);
        answers("a".repeat(160), -10, 2);
        answers("1".repeat(160), -10, 1);
        answers("price 5fine 5;", -17, 2);
        answers("price 1x;", -17, 2);
        answers("price5;fine6;", 2, 0);
        answers("price 5;;", -18, 2);
        answers("village 10 1;", 1, 0);
        answers("village 1 01;", 1, 0);
        answers("village 101;", -18, 1);
    }

    /** 2: "a NAME that begins no line": one letter of a NAME is another, is too much, or lacks. */
    private static void namesOfNoLine() {
        String[] lines = {"village", "plain", "river", "adopted", "mixed", "price", "fine", "round"};
        for (String line : lines) {
            for (int i = 0; i < line.length(); i++) {
                answers(line.substring(0, i) + "q" + line.substring(i + 1) + " 1;", -10, 2);
                answers(line.substring(0, i) + line.substring(i + 1) + " 1;", -10, 2);
                answers(line.substring(0, i) + "q" + line.substring(i) + " 1;", -10, 2);
            }
            answers(line + "q 1;", -10, 2);
            answers(line + line + " 1;", -10, 2);
        }
    }

    /** "NUMBERS (1 or 2 figures)"; 1: "a NUMBER that is too long (its first byte)". */
    private static void figures() {
        answers("price ;", -16, 2);
        answers("price 5;", 1, 0);
        answers("price 05;", 1, 0);
        answers("price 005;", -16, 1);
        answers("price 0005;", -16, 1);
        answers("village 99 9;", 1, 0);
        answers("village 100 9;", -18, 1);
        answers("village 099 9;", -18, 1);
        answers("plain 0 0 000;", -20, 1);
        answers("000", -10, 1);
        answers("price 5 000;", -18, 1);
        answers("price 5;000", -18, 1);
        answers("000 ;", -10, 1);
    }

    /** One NUMBER too few, just as many, one too many; and no ; behind them. */
    private static void howManyNumbers() {
        numbersOf("village", 2, "");
        for (String line : BODY_LINES) {
            numbersOf(line, 3, "village 1 1;");
        }
        for (String line : RULE_LINES) {
            numbersOf(line, 1, "");
        }
    }

    private static void numbersOf(String line, int many, String ahead) {
        String few = ahead + line + " 0".repeat(many - 1);
        String last = line.equals("round") ? " 1" : " 0";
        answers(few + ";", -10 - few.length(), 2);
        answers(few, -10 - few.length(), 2);
        answers(few + " " + line, -11 - few.length(), 2);
        String whole = few + last;
        answers(whole + ";", ahead.isEmpty() ? 1 : 2, 0);
        answers(whole, -10 - whole.length(), 2);
        answers(whole + " 0;", -11 - whole.length(), 2);
        answers(whole + " " + line, -11 - whole.length(), 2);
    }

    /** "MEANS (0 to 99), a WATCH (0 to 9)"; 3: "a NUMBER out of its bounds". */
    private static void meansAndWatchOutOfBounds() {
        told("village 0 0;", x -> x.village(0, 0), 0);
        told("village 99 0;", x -> x.village(0, 0), 99);
        told("village 0 0;", x -> x.village(0, 1), 0);
        told("village 0 9;", x -> x.village(0, 1), 9);
        answers("village 0 10;", -20, 3);
        answers("village 0 99;", -20, 3);
        answers("village 99 10;", -21, 3);
    }

    /** "AT (0 to 3), FATHER's, MOTHER's kin" "(0 to 9 each)". */
    private static void bodyOutOfBounds() {
        for (int kind = 0; kind < 4; kind++) {
            String line = BODY_LINES[kind];
            int after = FOUR_VILLAGES.length() + line.length();
            int is = kind;
            told(FOUR_VILLAGES + line + " 0 0 0;", x -> x.body(0, 0), is);
            told(FOUR_VILLAGES + line + " 0 0 0;", x -> x.body(0, 1), 0);
            told(FOUR_VILLAGES + line + " 3 0 0;", x -> x.body(0, 1), 3);
            answers(FOUR_VILLAGES + line + " 4 0 0;", -11 - after, 3);
            told(FOUR_VILLAGES + line + " 0 0 9;", x -> x.body(0, 2), 0);
            told(FOUR_VILLAGES + line + " 0 9 0;", x -> x.body(0, 2), 9);
            answers(FOUR_VILLAGES + line + " 0 10 0;", -13 - after, 3);
            told(FOUR_VILLAGES + line + " 0 9 0;", x -> x.body(0, 3), 0);
            told(FOUR_VILLAGES + line + " 0 0 9;", x -> x.body(0, 3), 9);
            answers(FOUR_VILLAGES + line + " 0 0 10;", -15 - after, 3);
        }
    }

    /** "PRICE of a kinsman (0 to 20 ..), FINE (0 to 60 ..), ROUND (1 to 9 ..)". */
    private static void rulesOutOfBounds() {
        for (int i = 0; i < 3; i++) {
            int what = i + 2;
            String line = RULE_LINES[i];
            int least = i == 2 ? 1 : 0;
            told(line + " " + least + ";", x -> x.rule(what), least);
            told(line + " " + MOST_OF_RULE[i] + ";", x -> x.rule(what), MOST_OF_RULE[i]);
            answers(line + " " + (MOST_OF_RULE[i] + 1) + ";", -11 - line.length(), 3);
            answers(line + " 99;", -11 - line.length(), 3);
        }
        answers("round 0;", -16, 3);
        answers("round 00;", -16, 3);
        told("round 01;", x -> x.rule(4), 1);
    }

    /** 4: "price, fine, round for the second time (its NAME)". */
    private static void rulesTwice() {
        for (String line : RULE_LINES) {
            String once = line + " 5;";
            answers(once, 1, 0);
            answers(once + line, -10 - once.length(), 4);
            answers(once + line + " 5;", -10 - once.length(), 4);
            answers(once + " " + line + " 5;", -11 - once.length(), 4);
            answers(once + line + " 99;", -10 - once.length(), 4);
            answers(once + line + "s 5;", -10 - once.length(), 2);
            answers(once + "village 1 1;" + line, -22 - once.length(), 4);
            ProofFine x = Check.told(once);
            CHECK.due(line + " once more in another text", Check.tell(x, once), 1);
        }
        answers("price 5;fine 5;round 5;", 3, 0);
        answers("price 5;fine 5;round 5;price", -33, 4);
    }

    /** 5: "the 5th village .. (its NAME)"; "VILLAGES .. (4 at most ..)". */
    private static void fifthVillage() {
        String three = "village 1 1;".repeat(3);
        answers(three, 3, 0);
        answers(FOUR_VILLAGES, 4, 0);
        answers(FOUR_VILLAGES + "village", -10 - FOUR_VILLAGES.length(), 5);
        answers(FOUR_VILLAGES + " village 1 1;", -11 - FOUR_VILLAGES.length(), 5);
        answers(FOUR_VILLAGES + "village $", -10 - FOUR_VILLAGES.length(), 5);
        answers(FOUR_VILLAGES + "villages", -10 - FOUR_VILLAGES.length(), 2);
        answers(three + "village", -17 - three.length(), 2);
        ProofFine x = Check.told(FOUR_VILLAGES);
        CHECK.due("four VILLAGES anew", Check.tell(x, FOUR_VILLAGES), 4);
        for (int v = 0; v < 4; v++) {
            CHECK.due("MEANS of VILLAGE " + v + ", by order", x.village(v, 0), v + 1);
            CHECK.due("WATCH of VILLAGE " + v + ", by order", x.village(v, 1), v + 1);
        }
        CHECK.due("VILLAGE 4", x.village(4, 0), BAD);
    }

    /** 5: "the 7th BODY (its NAME)"; "BODIES .. (6 at most ..)". */
    private static void seventhBody() {
        String five = "village 1 1;" + "plain 0 0 0;".repeat(5);
        answers(five, 6, 0);
        for (String line : BODY_LINES) {
            String six = five + line + " 0 0 0;";
            answers(six, 7, 0);
            for (String seventh : BODY_LINES) {
                answers(six + seventh, -10 - six.length(), 5);
                answers(six + " " + seventh + " 9 $", -11 - six.length(), 5);
            }
            answers(six + "price 5;", 8, 0);
            answers(six + "village 1 1;", 8, 0);
            answers(five + line, -10 - five.length() - line.length(), 2);
        }
        ProofFine x = Lands.crowded();
        x.end(0);
        CHECK.due("six BODIES anew", Check.tell(x, five + "mixed 0 0 0;"), 7);
        CHECK.due("BODIES by order", x.body(5, 0), 3);
    }

    /** 6: "Behind all (the length): .. a VILLAGE that there is not". */
    private static void noSuchVillage() {
        answers("plain 0 0 0;", -22, 6);
        answers("plain 0 0 0;   ", -25, 6);
        for (int villages = 1; villages <= 4; villages++) {
            String row = "village 1 1;".repeat(villages);
            answers(row + "mixed " + (villages - 1) + " 0 0;", villages + 1, 0);
            answers("mixed " + (villages - 1) + " 0 0;" + row, villages + 1, 0);
            if (villages < 4) {
                answers(row + "mixed " + villages + " 0 0;", -22 - row.length(), 6);
                answers("mixed " + villages + " 0 0;" + row, -22 - row.length(), 6);
                answers(row + "mixed " + villages + " 0 0;plain 0 0 0;", -34 - row.length(), 6);
                answers(row + "plain 0 0 0;mixed " + villages + " 0 0;", -34 - row.length(), 6);
            }
        }
        // VILLAGES that there were ahead of this text do not count
        ProofFine x = Check.told(FOUR_VILLAGES);
        CHECK.due("BODY without VILLAGES", Check.tell(x, "plain 0 0 0;"), -22);
    }

    /** "FAULTS, the first met as it is read (a TOKEN is read when the one before has been taken)". */
    private static void theFirstMet() {
        answers("house $", -10, 2);
        answers("$ house", -10, 1);
        answers("price 21$", -16, 3);
        answers("price 20$", -18, 1);
        answers("price 21 21;", -16, 3);
        answers("village 1 10", -20, 3);
        answers("village 1 1", -21, 2);
        answers("price 5;price $", -18, 4);
        answers("price 5 price", -18, 2);
        answers("plain 1 0 0;price 21;", -28, 3);
        answers("plain 1 0 0;price 20", -30, 2);
        answers("plain 4 10 10;", -16, 3);
        answers("plain 3 10 10;", -18, 3);
        answers("plain 1 0 0;price 5;price", -30, 4);
        answers("plain 0 0 0;" + FOUR_VILLAGES + "village", -70, 5);
        answers("round 0;round 0;", -16, 3);
        answers("village 1 1 1", -22, 2);
        answers("village 1 1 100", -22, 1);
    }

    /** fault: "The FAULT of the latest text(); 0." */
    private static void faultIsOfTheLatest() {
        String[] texts = {"", "$", ";", "price 21;", "price 5;price", FOUR_VILLAGES + "village", "plain 0 0 0;"};
        ProofFine x = new ProofFine();
        for (int fault = 0; fault <= 6; fault++) {
            Check.tell(x, texts[fault]);
            CHECK.due("fault() " + fault, x.fault(), fault);
            CHECK.due("fault() " + fault + " again", x.fault(), fault);
            x.feed('$');
            CHECK.due("fault() " + fault + " while bytes come", x.fault(), fault);
            x.end(0);
            CHECK.due("fault() " + fault + " behind end()", x.fault(), fault);
        }
        Check.tell(x, "price 5;");
        CHECK.due("fault() of a text that is taken", x.fault(), 0);
    }

    /** "A text that is taken tells all, in place of what there was; nothing is SEEN; IMAGES are gone." */
    private static void takenTellsAll() {
        ProofFine x = Lands.rich();
        x.keep(0);
        CHECK.due("a text that is taken", x.text(), 1);
        int[] rules = {0, 0, 7, 46, 5, 0, 0, 0, 0, 0};
        for (int what = 0; what <= 9; what++) {
            CHECK.due("taken: rule(" + what + ")", x.rule(what), rules[what]);
        }
        CHECK.due("THE TAPE is empty then", x.count(3), 0);
        CHECK.due("nothing is SEEN", x.count(1), 0);
        CHECK.due("IMAGES are gone", x.count(2), 0);
        CHECK.due("IMAGE 0 is gone", x.back(0), STATE);
        CHECK.due("IMAGE 1 is gone", x.back(1), STATE);
        CHECK.due("keep() finds none", x.keep(1), 0);
        CHECK.due("SHEET 0 stays", x.count(4), 5);
        CHECK.due("torn() stays", x.torn(), 2);
        CHECK.due("another text", Check.tell(x, "village 8 1;plain 0 2 1;"), 2);
        int[] others = {1, 1, 5, 46, 5, 0, 1, 0, 0, 0};
        for (int what = 0; what <= 9; what++) {
            CHECK.due("another text: rule(" + what + ")", x.rule(what), others[what]);
        }
        CHECK.due("its BODY lies", x.body(0, 4), 0);
        // "(lies at first)": whatever became of one in nights run or asked for before
        x = Lands.rich();
        x.runs(30, 2);
        x.end(0);
        Check.tell(x, "village 8 1;" + "plain 0 2 1;".repeat(6));
        CHECK.due("all lie", x.rule(6), 63);
        x.nights(30);
        Check.tell(x, "village 8 1;" + "plain 0 2 1;".repeat(6));
        CHECK.due("all lie again", x.rule(6), 63);
    }

    /** text: "that which was told stays"; "what is refused changes nothing (but THE TAPE, as told)". */
    private static void refusedLeavesAll() {
        Twin t = new Twin(CHECK, () -> {
            ProofFine x = Lands.rich();
            x.end(0);
            return x;
        });
        String[] texts = {"village 1 1;$", "village 1 1;;", "price 1;fine 2;round 3;price",
            FOUR_VILLAGES + "plain 0 0 0;village", "village 1 1;" + "plain 0 0 0;".repeat(6) + "mixed",
            "village 1 1;plain 1 0 0;", "village 1 1;price 20;fine 61;"};
        int[] wants = {-22, -22, -33, -70, -94, -34, -36};
        for (int i = 0; i < texts.length; i++) {
            String text = texts[i];
            // the second text tells nothing either, and makes fault() as it was
            t.leaves("refused: " + text, x -> {
                long answer = Check.tell(x, text);
                CHECK.due("THE TAPE is empty behind " + text, x.count(3), 0);
                Check.tell(x, "fine 61;");
                return answer;
            }, wants[i]);
        }
    }

    private static void answers(String text, int want, int fault) {
        ProofFine x = new ProofFine();
        CHECK.due("text of \"" + text + "\"", Check.tell(x, text), want);
        CHECK.due("fault of \"" + text + "\"", x.fault(), fault);
        CHECK.due("bytes behind \"" + text + "\"", x.count(3), 0);
    }

    private static void told(String text, Twin.Ask ask, long want) {
        CHECK.due("told by \"" + text + "\"", ask.of(Check.told(text)), want);
    }
}
