/** Promises 33 to 39: keep, back, sheet, lay, read, torn, count. */
public final class SheetTest {
    private static final Check CHECK = new Check("SheetTest");
    private static final int BAD = ProofFine.BAD, STATE = ProofFine.STATE, NONE = ProofFine.NONE;

    public static void main(String[] args) {
        images();
        imagesHoldAll();
        sheets();
        cells();
        reads();
        refusedReads();
        lanes();
        farCells();
        noReads();
        counts();
        CHECK.end();
    }

    private static void images() {
        ProofFine x = Check.told("village 20 0;");
        CHECK.due("keep(-1)", x.keep(-1), BAD);
        CHECK.due("keep(2)", x.keep(2), BAD);
        CHECK.due("back(-1)", x.back(-1), BAD);
        CHECK.due("back(2)", x.back(2), BAD);
        CHECK.due("back(0)", x.back(0), STATE);
        CHECK.due("back(1)", x.back(1), STATE);
        CHECK.due("keep(1)", x.keep(1), 0);
        CHECK.due("count(2)", x.count(2), 1);
        CHECK.due("back(0) still", x.back(0), STATE);
        x.nights(7);
        CHECK.due("keep(0)", x.keep(0), 0);
        CHECK.due("count(2) then", x.count(2), 2);
        x.nights(1);
        CHECK.due("back(1)", x.back(1), 0);
        CHECK.due("DAY", x.rule(5), 0);
        CHECK.due("back(0)", x.back(0), 7);
        CHECK.due("DAY then", x.rule(5), 7);
        CHECK.due("back(1) again", x.back(1), 0);
        CHECK.due("keep(0) again", x.keep(0), 1);
        CHECK.due("back(0) of another DAY", x.back(0), 0);
    }

    private static void imagesHoldAll() {
        ProofFine x = Check.told("village 3 2;village 40 0;plain 0 0 0;mixed 1 1 1;price 6;fine 30;round 2;");
        x.nights(2);
        x.see(0, 1, 0);
        x.see(1, 2, 1);
        x.find(2, 1, 4, 5);
        x.sheet(0, 0, 5);
        x.feed(65);
        int[] was = all(x);
        CHECK.holds("someone was RUINED", x.rule(9) != 0);
        CHECK.due("keep(0)", x.keep(0), 0);
        x.grant(0, 0, 50);
        x.grant(1, 1, 7);
        x.alter(2, 0, 1);
        x.alter(2, 1, 0);
        x.alter(2, 2, 0);
        x.alter(2, 3, 0);
        x.find(0, 0, 0, 0);
        x.set(2, 1);
        x.set(3, 2);
        x.set(4, 9);
        x.forget(1);
        x.see(1, 5, 0);
        x.see(1, 5, 0);
        x.nights(3);
        x.sheet(0, 0, 6);
        x.feed(65);
        CHECK.due("back(0)", x.back(0), 2);
        int[] is = all(x);
        for (int i = 0; i < was.length; i++) {
            CHECK.due("the " + i + "th of all that an IMAGE holds", is[i], was[i]);
        }
        CHECK.due("SHEETS are no part of it", x.count(4), 6);
        CHECK.due("THE TAPE is no part of it", x.count(3), 2);
        x.nights(1);
        CHECK.due("an IMAGE stays as it is", x.back(0), 2);
    }

    private static int[] all(ProofFine x) {
        int[] row = new int[60];
        int n = 0;
        for (int what = 0; what < 10; what++) {
            row[n++] = x.rule(what);
        }
        for (int v = 0; v < 3; v++) {
            for (int what = 0; what < 3; what++) {
                row[n++] = x.village(v, what);
            }
        }
        for (int b = 0; b < 4; b++) {
            for (int what = 0; what < 6; what++) {
                row[n++] = x.body(b, what);
            }
            row[n++] = x.kinds(b);
        }
        row[n++] = x.count(1);
        return row;
    }

    private static void sheets() {
        ProofFine x = new ProofFine();
        CHECK.due("sheet(4, 0, 1)", x.sheet(4, 0, 1), BAD);
        CHECK.due("sheet(-1, 0, 1)", x.sheet(-1, 0, 1), BAD);
        CHECK.due("sheet(0, 3, 1)", x.sheet(0, 3, 1), BAD);
        CHECK.due("sheet(0, -1, 1)", x.sheet(0, -1, 1), BAD);
        CHECK.due("sheet(0, 0, 41)", x.sheet(0, 0, 41), BAD);
        CHECK.due("sheet(0, 0, -1)", x.sheet(0, 0, -1), -14);
        CHECK.due("sheet(0, 0, least)", x.sheet(0, 0, Integer.MIN_VALUE), -14);
        CHECK.due("sheet(4, 0, -1): BAD first", x.sheet(4, 0, -1), BAD);
        CHECK.due("sheet(0, 3, -1): BAD first", x.sheet(0, 3, -1), BAD);
        CHECK.due("count(4): still nothing", x.count(4), NONE);
        CHECK.due("sheet(0, 0, 0)", x.sheet(0, 0, 0), 1);
        CHECK.due("count(4)", x.count(4), 0);
        CHECK.due("sheet(0, 2, 40)", x.sheet(0, 2, 40), 1);
        CHECK.due("count(4) then", x.count(4), 40);
        CHECK.due("sheet(0, 1, -3)", x.sheet(0, 1, -3), -14);
        CHECK.due("count(4) still", x.count(4), 40);
        CHECK.due("sheet(3, 1, 3)", x.sheet(3, 1, 3), 1);
        CHECK.due("count(4): SHEET 0 alone", x.count(4), 40);
    }

    private static void cells() {
        ProofFine x = Check.told("village 0 0;");
        CHECK.due("lay(4, 0, 0)", x.lay(4, 0, 0), BAD);
        CHECK.due("lay(-1, 0, 0)", x.lay(-1, 0, 0), BAD);
        CHECK.due("lay(0, 0, 0): NULL", x.lay(0, 0, 0), -11);
        CHECK.due("lay(0, -1, 0): NULL first", x.lay(0, -1, 0), -11);
        x.sheet(0, 0, 3);
        CHECK.due("lay(0, 2, 1)", x.lay(0, 2, 1), 1);
        CHECK.due("lay(0, 3, 1): INDEX", x.lay(0, 3, 1), -12);
        CHECK.due("lay(0, -1, 1): INDEX", x.lay(0, -1, 1), -12);
        CHECK.due("lay(0, most, 1): INDEX", x.lay(0, Integer.MAX_VALUE, 1), -12);
        x.sheet(1, 0, 0);
        CHECK.due("lay(1, 0, 0): INDEX", x.lay(1, 0, 0), -12);
        x.sheet(0, 0, 3);
        x.lay(0, 0, 3);
        x.sheet(0, 0, 3);
        CHECK.due("a new row is of CELLS 0", x.read(0, 0, 0, 1), 1);
        CHECK.due("KIND 0", x.body(0, 0), 0);
    }

    private static void reads() {
        ProofFine x = Check.told("village 0 0;village 0 0;");
        x.sheet(2, 1, 7);
        int[] row = {0, 3, 1, 2, 0, 1, 1};
        for (int i = 0; i < row.length; i++) {
            x.lay(2, i, row[i]);
        }
        CHECK.due("read(2, 1, 1, 2)", x.read(2, 1, 1, 2), 2);
        CHECK.due("torn()", x.torn(), 0);
        int[][] want = {{3, 1, 0, 0, 0}, {2, 0, 0, 0, 0}};
        for (int b = 0; b < 2; b++) {
            for (int what = 0; what < 5; what++) {
                CHECK.due("read: body(" + b + ", " + what + ")", x.body(b, what), want[b][what]);
            }
        }
        CHECK.due("read(2, 1, 3, 5): two are whole", x.read(2, 1, 3, 5), 2);
        CHECK.due("torn(): INDEX", x.torn(), 2);
        CHECK.due("rule(1)", x.rule(1), 4);
        CHECK.due("read(2, 1, 6, 1): half of one", x.read(2, 1, 6, 1), 0);
        CHECK.due("torn(): INDEX again", x.torn(), 2);
        CHECK.due("read(2, 0, 1, 1): CAST", x.read(2, 0, 1, 1), 0);
        CHECK.due("torn(): CAST", x.torn(), 3);
        CHECK.due("read(0, 1, 1, 1): NULL", x.read(0, 1, 1, 1), 0);
        CHECK.due("torn(): NULL", x.torn(), 1);
        CHECK.due("read(2, 1, 1, 1)", x.read(2, 1, 1, 1), 1);
        CHECK.due("torn(): none", x.torn(), 0);
        CHECK.due("read(2, 0, 99, 1): CAST ahead of INDEX", x.read(2, 0, 99, 1), 0);
        CHECK.due("torn(): CAST again", x.torn(), 3);
        CHECK.due("rule(1) then", x.rule(1), 5);
    }

    private static void refusedReads() {
        ProofFine x = Check.told("village 0 0;village 0 0;");
        x.sheet(0, 2, 40);
        x.lay(0, 5, 2);
        CHECK.due("read(4, 2, 0, 1)", x.read(4, 2, 0, 1), BAD);
        CHECK.due("read(-1, 2, 0, 1)", x.read(-1, 2, 0, 1), BAD);
        CHECK.due("read(0, 3, 0, 1)", x.read(0, 3, 0, 1), BAD);
        CHECK.due("read(0, -1, 0, 1)", x.read(0, -1, 0, 1), BAD);
        CHECK.due("read(0, 2, 0, 21)", x.read(0, 2, 0, 21), BAD);
        CHECK.due("read(0, 2, 0, -1)", x.read(0, 2, 0, -1), BAD);
        CHECK.due("read(0, 2, 0, 3): no such VILLAGE", x.read(0, 2, 0, 3), -22);
        CHECK.due("none came", x.rule(1), 0);
        x.lay(0, 5, 1);
        x.lay(0, 8, 4);
        CHECK.due("read(0, 2, 0, 9): no such KIND", x.read(0, 2, 0, 9), -24);
        CHECK.due("none came again", x.rule(1), 0);
        CHECK.due("read(0, 2, 10, 20): the 7th", x.read(0, 2, 10, 20), -26);
        CHECK.due("none came still", x.rule(1), 0);
        CHECK.due("read(0, 2, 10, 6)", x.read(0, 2, 10, 6), 6);
        CHECK.due("read(0, 2, 10, 1): FULL", x.read(0, 2, 10, 1), -20);
        CHECK.due("rule(1)", x.rule(1), 6);
        x.read(0, 1, 0, 0);
        x.read(0, 0, 0, 1);
        CHECK.due("torn()", x.torn(), 3);
        x.read(0, 2, 10, 1);
        CHECK.due("torn(): a refused one did not come to an end", x.torn(), 3);
        x.read(4, 2, 10, 1);
        CHECK.due("torn(): a BAD one neither", x.torn(), 3);
        CHECK.due("read(0, 2, 39, 1): INDEX ahead of FULL", x.read(0, 2, 39, 1), 0);
        CHECK.due("torn(): INDEX", x.torn(), 2);
    }

    private static void lanes() {
        ProofFine x = Check.told("village 0 0;village 0 0;");
        int big = 0x12345603;
        int middle = 0x12340003;
        for (int lane = 0; lane < 3; lane++) {
            x.sheet(lane, lane, 2);
            x.lay(lane, 0, big);
        }
        CHECK.due("a byte keeps 8 bits", x.read(0, 0, 0, 1), 1);
        CHECK.due("its KIND", x.body(0, 0), 3);
        CHECK.due("a short keeps 16", x.read(1, 1, 0, 1), -20);
        CHECK.due("an int keeps all", x.read(2, 2, 0, 1), -20);
        x.lay(1, 0, middle);
        x.lay(2, 0, middle);
        CHECK.due("a short keeps 16 bits", x.read(1, 1, 0, 1), 1);
        CHECK.due("an int keeps 32 bits", x.read(2, 2, 0, 1), -20);
        x.lay(0, 0, 255);
        x.lay(1, 0, 65535);
        CHECK.due("a byte below 0", x.read(0, 0, 0, 1), -20);
        CHECK.due("a short below 0", x.read(1, 1, 0, 1), -20);
    }

    private static void farCells() {
        ProofFine x = Check.told("village 0 0;");
        x.sheet(0, 0, 40);
        int[] starts = {-1, -2, 39, 40, Integer.MIN_VALUE, Integer.MAX_VALUE, Integer.MAX_VALUE - 1};
        for (int f : starts) {
            CHECK.due("read(0, 0, " + f + ", 20)", x.read(0, 0, f, 20), 0);
            CHECK.due("torn() then", x.torn(), 2);
            x.read(1, 0, 0, 1);
        }
        CHECK.due("rule(1)", x.rule(1), 0);
    }

    private static void noReads() {
        ProofFine x = Check.told("village 0 0;");
        x.sheet(0, 0, 2);
        CHECK.due("read(0, 0, 99, 0)", x.read(0, 0, 99, 0), 0);
        CHECK.due("torn(): no CELL was read", x.torn(), 0);
        CHECK.due("read(1, 0, 0, 0)", x.read(1, 0, 0, 0), 0);
        CHECK.due("torn(): nothing was read of nothing", x.torn(), 0);
        CHECK.due("read(0, 1, 0, 1)", x.read(0, 1, 0, 1), 0);
        CHECK.due("torn(): CAST", x.torn(), 3);
        CHECK.due("read(0, 1, 0, 0)", x.read(0, 1, 0, 0), 0);
        CHECK.due("torn(): nothing was read as of another lane", x.torn(), 0);
        x.sheet(3, 0, 0);
        CHECK.due("read(3, 1, 0, 1)", x.read(3, 1, 0, 1), 0);
        CHECK.due("torn(): CAST also of no CELLS", x.torn(), 3);
        CHECK.due("read(3, 2, -1, 0)", x.read(3, 2, -1, 0), 0);
        CHECK.due("torn(): nothing was read of no CELLS", x.torn(), 0);
    }

    private static void counts() {
        ProofFine x = Check.told("village 20 0;village 30 0;plain 0 0 0;mixed 1 0 0;plain 1 2 1;");
        x.feed(65);
        x.feed(66);
        x.see(0, 0, 0);
        x.keep(1);
        x.sheet(0, 0, 9);
        int[] want = {50, 1, 1, 2, 9, 9};
        for (int what = 0; what < 6; what++) {
            CHECK.due("count(" + what + ")", x.count(what), want[what]);
        }
        CHECK.due("count(6)", x.count(6), BAD);
        CHECK.due("count(-1)", x.count(-1), BAD);
        x.nights(1);
        CHECK.due("count(0) then", x.count(0), 5);
        CHECK.due("count(5): of those that lie", x.count(5), 0);
    }
}
