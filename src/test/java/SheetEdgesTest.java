/** Boundaries of promises 33 to 39: keep, back, sheet, lay, read, torn, count; SHEETS and their FAULTS. */
public final class SheetEdgesTest {
    private static final Check CHECK = new Check("SheetEdgesTest");
    private static final int BAD = ProofFine.BAD, STATE = ProofFine.STATE, NONE = ProofFine.NONE;
    private static final int NULL = 1, INDEX = 2, CAST = 3;
    private static final Twin RICH = new Twin(CHECK, Lands::rich);
    private static final Twin CROWDED = new Twin(CHECK, Lands::crowded);
    private static final Twin EMPTY = new Twin(CHECK, ProofFine::new);

    public static void main(String[] args) {
        keepBounds();
        keepInPlace();
        backBounds();
        keepSeen();
        backAgain();
        backLeavesTheRest();
        sheetBounds();
        sheetBelowNothing();
        sheetAnew();
        layBounds();
        layIndex();
        layLowestBits();
        readBounds();
        readNothing();
        readNull();
        readCast();
        readIndex();
        readHalfOfOne();
        readFarOff();
        readRefused();
        readFull();
        readTheFirstMet();
        readWithoutKin();
        tornOfTheLatest();
        countBounds();
        countNothing();
        CHECK.end();
    }

    /** keep: "IMAGE k (0, 1) .. whether there was one (1, 0). BAD." */
    private static void keepBounds() {
        RICH.bounds("keep", (x, k) -> x.keep(k), 0, 0, 1, 1);
        EMPTY.bounds("keep of nothing", (x, k) -> x.keep(k), 0, 0, 1, 0);
        ProofFine x = Lands.rich();
        CHECK.due("keep(0)", x.keep(0), 0);
        CHECK.due("keep(0) again", x.keep(0), 1);
        CHECK.due("keep(1): there was one", x.keep(1), 1);
        CHECK.due("IMAGES", x.count(2), 2);
        x = new ProofFine();
        x.keep(0);
        CHECK.due("an IMAGE of nothing", x.back(0), 0);
    }

    /** keep: the new IMAGE is in place of the old one; the other one stays. */
    private static void keepInPlace() {
        ProofFine x = Lands.rich();
        x.keep(0);
        x.nights(1);
        x.keep(0);
        x.nights(1);
        CHECK.due("the latest IMAGE 0", x.back(0), 3);
        CHECK.due("PAID until then", x.count(0), 92);
        CHECK.due("IMAGE 1 of before", x.back(1), 1);
        CHECK.due("its MEANS", x.count(0), 119);
        CHECK.due("its SEEN", x.count(1), 1);
        CHECK.due("its BODIES", x.rule(1), 2);
        CHECK.due("nobody RUINED yet", x.rule(9), 0);
    }

    /** back: "All is as IMAGE k: DAY. BAD; STATE: there is none." */
    private static void backBounds() {
        RICH.bounds("back", (x, k) -> x.back(k), 0, STATE, 1, 1);
        RICH.leaves("back(0): there is none", x -> x.back(0), STATE);
        EMPTY.leaves("back(0) of none", x -> x.back(0), STATE);
        EMPTY.leaves("back(1) of none", x -> x.back(1), STATE);
        EMPTY.bad("back of none", (x, k) -> x.back(k), -1, 2);
    }

    /** keep: "what was SEEN": each sighting, also where as many others came in place of them. */
    private static void keepSeen() {
        ProofFine x = Check.told("village 5 0;village 50 0;plain 0 2 0;plain 1 2 0;round 9;");
        int[][] pairs = {{0, 1, 0}, {0, 1, 1}, {1, 0, 0}, {0, 9, 1}, {0, 0, 1}};
        int[] kinds = {5, 10, 0, 10, 0};
        for (int i = 0; i < pairs.length; i++) {
            for (int j = 0; j < pairs.length; j++) {
                x.forget(0);
                x.see(pairs[i][0], pairs[i][1], pairs[i][2]);
                x.keep(0);
                x.forget(0);
                x.see(pairs[j][0], pairs[j][1], pairs[j][2]);
                CHECK.due("in place of it", x.kinds(0), kinds[j]);
                x.back(0);
                CHECK.due("as it was SEEN", x.kinds(0), kinds[i]);
                CHECK.due("how many", x.count(1), 1);
            }
        }
    }

    /** back: an IMAGE stays as it is, whatever comes behind. */
    private static void backAgain() {
        ProofFine x = Lands.rich();
        for (int i = 0; i < 3; i++) {
            CHECK.due("back(1)", x.back(1), 1);
            CHECK.due("rule(1)", x.rule(1), 2);
            CHECK.due("count(0)", x.count(0), 119);
            x.find(0, 0, 0, 0);
            x.grant(0, 0, 99);
            x.see(0, 0, 0);
            x.nights(3);
        }
        CHECK.due("IMAGES", x.count(2), 1);
    }

    /** back: THE TAPE, SHEETS, fault(), torn() and the other IMAGE are no part of an IMAGE. */
    private static void backLeavesTheRest() {
        ProofFine x = Lands.rich();
        x.keep(0);
        x.back(1);
        CHECK.due("THE TAPE", x.count(3), 8);
        CHECK.due("SHEET 0", x.count(4), 5);
        CHECK.due("fault()", x.fault(), 3);
        CHECK.due("torn()", x.torn(), INDEX);
        CHECK.due("IMAGES", x.count(2), 2);
        CHECK.due("the other IMAGE", x.back(0), 2);
        CHECK.due("who was RUINED in it", x.rule(9), 2);
        CHECK.due("what was SEEN in it", x.kinds(4), 8);
    }

    /** sheet: "SHEETS 0 to 3 .. BYTES (lane 0), SHORTS (1), INTS (2) with 0 to 40 CELLS": "1. BAD". */
    private static void sheetBounds() {
        RICH.bounds("sheet(k, 0, 1)", (x, k) -> x.sheet(k, 0, 1), 0, 1, 3, 1);
        RICH.bounds("sheet(0, lane, 1)", (x, lane) -> x.sheet(0, lane, 1), 0, 1, 2, 1);
        RICH.answers("sheet(0, 0, 0)", x -> x.sheet(0, 0, 0), 1);
        RICH.answers("sheet(0, 0, 40)", x -> x.sheet(0, 0, 40), 1);
        RICH.bad("sheet(0, 0, n)", (x, n) -> x.sheet(0, 0, n), 41, 42, Integer.MAX_VALUE);
        EMPTY.bounds("sheet(k, 2, 40)", (x, k) -> x.sheet(k, 2, 40), 0, 1, 3, 1);
    }

    /** sheet: "-10 - 4": a SIZE below 0; BAD is first. */
    private static void sheetBelowNothing() {
        for (int n : new int[] {-1, -2, -40, Integer.MIN_VALUE}) {
            for (int lane = 0; lane <= 2; lane++) {
                int which = lane;
                RICH.leaves("sheet(0, " + lane + ", " + n + ")", x -> x.sheet(0, which, n), -14);
                RICH.leaves("sheet(3, " + lane + ", " + n + "): nothing still", x -> x.sheet(3, which, n), -14);
            }
            RICH.bad("sheet(k, 0, " + n + ")", (x, k) -> x.sheet(k, 0, n), -1, 4);
            RICH.bad("sheet(0, lane, " + n + ")", (x, lane) -> x.sheet(0, lane, n), -1, 3);
        }
        RICH.bad("sheet(k, 0, 41)", (x, k) -> x.sheet(k, 0, 41), -1, 0, 4);
    }

    /** sheet: "a new row of CELLS 0" of another lane, another size; the other SHEETS stay. */
    private static void sheetAnew() {
        for (int size : new int[] {0, 1, 2, 3, 39, 40}) {
            ProofFine x = Lands.rich();
            x.sheet(0, 2, size);
            CHECK.due("CELLS of SHEET 0", x.count(4), size);
            if (size > 0) {
                CHECK.due("the last CELL", x.lay(0, size - 1, 0), 1);
            }
            CHECK.due("behind the last CELL", x.lay(0, size, 0), -12);
            x = Lands.rich();
            x.sheet(1, 2, size);
            CHECK.due("SHEET 0 stays", x.count(4), 5);
        }
        ProofFine x = Check.told("village 0 0;village 0 0;");
        x.sheet(0, 0, 40);
        for (int i = 0; i < 40; i++) {
            x.lay(0, i, 1);
        }
        x.sheet(0, 0, 40);
        for (int f = 0; f < 40; f += 12) {
            x.keep(0);
            x.read(0, 0, f, Math.min(6, (40 - f) / 2));
            for (int b = 0; b < x.rule(1); b++) {
                CHECK.due("CELLS 0: KIND", x.body(b, 0), 0);
                CHECK.due("CELLS 0: VILLAGE", x.body(b, 1), 0);
            }
            x.back(0);
        }
    }

    /** lay: "CELL i of a SHEET becomes v ..: 1. BAD: k; -10 less the FAULT: NULL". */
    private static void layBounds() {
        RICH.bounds("lay(k, 0, 1)", (x, k) -> x.lay(k, 0, 1), 0, 1, 3, -11);
        RICH.bounds("lay(k, -1, 1): BAD is first", (x, k) -> x.lay(k, -1, 1), 0, -12, 3, -11);
        for (int i : new int[] {0, -1, 40, Integer.MIN_VALUE, Integer.MAX_VALUE}) {
            RICH.leaves("lay(3, " + i + ", 1): NULL", x -> x.lay(3, i, 1), -11);
            EMPTY.leaves("lay(0, " + i + ", 1): NULL", x -> x.lay(0, i, 1), -11);
        }
    }

    /** lay: "-10 less the FAULT: .. INDEX". */
    private static void layIndex() {
        RICH.answers("lay(0, 0, 1)", x -> x.lay(0, 0, 1), 1);
        RICH.answers("lay(0, 4, 1)", x -> x.lay(0, 4, 1), 1);
        for (int i : new int[] {-1, 5, 6, 39, 40, Integer.MIN_VALUE, Integer.MAX_VALUE}) {
            RICH.leaves("lay(0, " + i + ", 1): INDEX", x -> x.lay(0, i, 1), -12);
        }
        RICH.leaves("lay(0, 0, 3): as it is", x -> x.lay(0, 0, 3), 1);
        RICH.leaves("torn() is read()'s alone", x -> {
            x.lay(3, 0, 0);
            return x.torn();
        }, INDEX);
        ProofFine x = Check.told("village 0 0;village 0 0;village 0 0;village 0 0;");
        x.sheet(0, 0, 4);
        for (int i = 0; i < 4; i++) {
            x.lay(0, i, 3 - i);
        }
        x.read(0, 0, 0, 2);
        CHECK.due("CELL 0", x.body(0, 0), 3);
        CHECK.due("CELL 1", x.body(0, 1), 2);
        CHECK.due("CELL 2", x.body(1, 0), 1);
        CHECK.due("CELL 3", x.body(1, 1), 0);
    }

    /** lay: "becomes v (its lowest bits)": a byte is -128 to 127, a short -32768 to 32767. */
    private static void layLowestBits() {
        int[] values = {3, 4, -1, 127, 128, 131, 255, 256, 259, -253, -256, 32767, 32768, 65535, 65536, 65539,
            -65533, 16777219, Integer.MIN_VALUE, Integer.MIN_VALUE + 3, Integer.MAX_VALUE};
        for (int value : values) {
            int[] kept = {(byte) value, (short) value, value};
            for (int lane = 0; lane <= 2; lane++) {
                ProofFine x = Check.told("village 0 0;");
                x.sheet(0, lane, 2);
                x.lay(0, 0, value);
                boolean kind = kept[lane] >= 0 && kept[lane] <= 3;
                CHECK.due("KIND " + value + " of lane " + lane, x.read(0, lane, 0, 1), kind ? 1 : -20);
                CHECK.due("its KIND", x.body(0, 0), kind ? kept[lane] : BAD);
            }
        }
    }

    /** read: k, lane, "n (0 to 20)". "BAD: k, lane, n". */
    private static void readBounds() {
        RICH.bounds("read(k, 0, 0, 1)", (x, k) -> x.read(k, 0, 0, 1), 0, 1, 3, 0);
        RICH.bounds("read(0, lane, 0, 1)", (x, lane) -> x.read(0, lane, 0, 1), 0, 1, 2, 0);
        RICH.bounds("read(0, 0, 3, n)", (x, n) -> x.read(0, 0, 3, n), 0, 0, 20, 1);
        RICH.bounds("read(3, 0, 0, n), of nothing", (x, n) -> x.read(3, 0, 0, n), 0, 0, 20, 0);
        RICH.bounds("read(k, 0, -1, 1), BAD ahead of a FAULT", (x, k) -> x.read(k, 0, -1, 1), 0, 0, 3, 0);
        EMPTY.bounds("read of nothing", (x, k) -> x.read(k, 0, 0, 1), 0, 0, 3, 0);
    }

    /** read: n is 0: nothing is read, so nothing is refused. */
    private static void readNothing() {
        for (int k = 0; k <= 3; k++) {
            for (int lane = 0; lane <= 2; lane++) {
                for (int f : new int[] {0, -1, 99, Integer.MIN_VALUE, Integer.MAX_VALUE}) {
                    ProofFine x = Lands.rich();
                    CHECK.due("read(" + k + ", " + lane + ", " + f + ", 0)", x.read(k, lane, f, 0), 0);
                    CHECK.due("torn() then", x.torn(), 0);
                    CHECK.due("none came", x.rule(1), 5);
                }
            }
        }
        CROWDED.answers("read(0, 0, 0, 0), no room", x -> x.read(0, 0, 0, 0), 0);
    }

    /** read and torn: a FAULT of a read by which none came, which leaves all else as it was. */
    private static void faultOf(int fault, int k, int lane, int f, int n) {
        String call = "read(" + k + ", " + lane + ", " + f + ", " + n + ")";
        ProofFine x = Lands.rich();
        CHECK.due(call, x.read(k, lane, f, n), 0);
        CHECK.due(call + ": torn()", x.torn(), fault);
        // a read of half a pair makes torn() as it was
        RICH.leaves(call, y -> {
            long came = y.read(k, lane, f, n);
            y.read(0, 0, 4, 1);
            return came;
        }, 0);
    }

    /** "1 NULL (nothing)": whatever the lane and the CELL. */
    private static void readNull() {
        for (int lane = 0; lane <= 2; lane++) {
            faultOf(NULL, 3, lane, 0, 1);
            faultOf(NULL, 3, lane, 0, 20);
            faultOf(NULL, 3, lane, -1, 1);
            faultOf(NULL, 3, lane, Integer.MAX_VALUE, 1);
        }
    }

    /** "3 CAST (another lane)": also where the CELL is not there. */
    private static void readCast() {
        for (int k = 0; k <= 2; k++) {
            for (int lane = 0; lane <= 2; lane++) {
                if (lane != k) {
                    faultOf(CAST, k, lane, 0, 1);
                    faultOf(CAST, k, lane, 0, 20);
                    faultOf(CAST, k, lane, -1, 1);
                    faultOf(CAST, k, lane, 40, 1);
                }
            }
        }
        ProofFine x = Check.told("village 0 0;");
        x.sheet(0, 1, 0);
        CHECK.due("a row of no CELLS, another lane", x.read(0, 0, 0, 1), 0);
        CHECK.due("torn(): CAST", x.torn(), CAST);
        CHECK.due("a row of no CELLS", x.read(0, 1, 0, 1), 0);
        CHECK.due("torn(): INDEX", x.torn(), INDEX);
    }

    /** "2 INDEX": "those that were whole ahead came". */
    private static void readIndex() {
        faultOf(INDEX, 0, 0, 5, 1);
        faultOf(INDEX, 0, 0, -1, 1);
        faultOf(INDEX, 1, 1, 4, 1);
        faultOf(INDEX, 2, 2, 2, 20);
        for (int n = 0; n <= 5; n++) {
            ProofFine x = Check.told("village 0 0;village 0 0;");
            x.sheet(0, 1, 6);
            CHECK.due("n " + n + " of 6 CELLS", x.read(0, 1, 0, n), Math.min(n, 3));
            CHECK.due("torn() of n " + n, x.torn(), n <= 3 ? 0 : INDEX);
            CHECK.due("BODIES of n " + n, x.rule(1), Math.min(n, 3));
        }
        for (int f = -1; f <= 7; f++) {
            ProofFine x = Check.told("village 0 0;village 0 0;");
            x.sheet(0, 2, 6);
            int whole = f < 0 ? 0 : Math.max(0, (6 - f) / 2);
            CHECK.due("from CELL " + f, x.read(0, 2, f, 4), whole);
            CHECK.due("torn() from CELL " + f, x.torn(), INDEX);
            CHECK.due("BODIES from CELL " + f, x.rule(1), whole);
        }
    }

    /** "those that were whole ahead": one of which only the KIND is there did not come. */
    private static void readHalfOfOne() {
        faultOf(INDEX, 0, 0, 4, 1);
        faultOf(INDEX, 1, 1, 3, 1);
        faultOf(INDEX, 2, 2, 1, 1);
        ProofFine x = Check.told("village 0 0;");
        x.sheet(0, 0, 3);
        x.lay(0, 2, 99);
        CHECK.due("a KIND that there is not, but only half", x.read(0, 0, 0, 2), 1);
        CHECK.due("torn(): INDEX", x.torn(), INDEX);
        CHECK.due("the whole one came", x.rule(1), 1);
        x.sheet(0, 0, 1);
        CHECK.due("one CELL", x.read(0, 0, 0, 1), 0);
        x.sheet(0, 0, 2);
        CHECK.due("two CELLS", x.read(0, 0, 0, 1), 1);
    }

    /** f may be anything: a CELL that is not there is an INDEX, near the ends of int too. */
    private static void readFarOff() {
        for (int f : new int[] {-2, -3, 40, Integer.MIN_VALUE, Integer.MIN_VALUE + 1, Integer.MAX_VALUE,
            Integer.MAX_VALUE - 1, Integer.MAX_VALUE - 39}) {
            faultOf(INDEX, 0, 0, f, 1);
            faultOf(INDEX, 0, 0, f, 20);
        }
    }

    private static ProofFine laid(int lane, int... cells) {
        ProofFine x = Lands.rich();
        x.sheet(3, lane, cells.length);
        for (int i = 0; i < cells.length; i++) {
            x.lay(3, i, cells[i]);
        }
        return x;
    }

    /** read: "-20 less i: the i-th, whole, is refused by find() ..: then none came". */
    private static void readRefused() {
        int[][] wrong = {{4, 0}, {-1, 0}, {0, 4}, {0, -1}, {9, 9}};
        for (int lane = 0; lane <= 2; lane++) {
            int taken = lane;
            for (int[] pair : wrong) {
                String call = "a KIND " + pair[0] + ", a VILLAGE " + pair[1];
                new Twin(CHECK, () -> laid(taken, pair[0], pair[1]))
                    .leaves(call + ", the first", x -> x.read(3, taken, 0, 1), -20);
                Twin t = new Twin(CHECK, () -> laid(taken, 0, 0, pair[0], pair[1], 0, 0));
                t.leaves(call + ", the second", x -> x.read(3, taken, 0, 2), -21);
                t.leaves(call + ", the second of three", x -> x.read(3, taken, 0, 3), -21);
                t.answers(call + ", not read", x -> x.read(3, taken, 0, 1), 1);
            }
            new Twin(CHECK, () -> laid(taken, 3, 3)).answers("the greatest", x -> x.read(3, taken, 0, 1), 1);
            new Twin(CHECK, () -> laid(taken, 0, 0)).answers("the least", x -> x.read(3, taken, 0, 1), 1);
        }
        for (int villages = 1; villages <= 3; villages++) {
            String row = "village 1 1;".repeat(villages);
            for (int g = 0; g <= 3; g++) {
                ProofFine x = Check.told(row);
                x.sheet(0, 0, 2);
                x.lay(0, 1, g);
                CHECK.due("VILLAGE " + g + " of " + villages, x.read(0, 0, 0, 1), g < villages ? 1 : -20);
            }
        }
        ProofFine x = new ProofFine();
        x.sheet(0, 0, 2);
        CHECK.due("no VILLAGES", x.read(0, 0, 0, 1), -20);
    }

    /** read: "refused by find() (in whichever way)": FULL too. */
    private static void readFull() {
        RICH.answers("room for one, one", x -> x.read(0, 0, 0, 1), 1);
        new Twin(CHECK, () -> laid(0, 0, 0, 1, 1, 2, 2, 3, 3)).leaves("room for one, two",
            x -> x.read(3, 0, 0, 2), -21);
        CROWDED.leaves("no room, one", x -> x.read(0, 0, 0, 1), -20);
        CROWDED.leaves("no room, twenty", x -> x.read(0, 0, 0, 20), -20);
        for (int n = 5; n <= 20; n++) {
            ProofFine x = Check.told("village 0 0;");
            x.sheet(0, 0, 40);
            CHECK.due("n " + n + " into room for six", x.read(0, 0, 0, n), n <= 6 ? n : -26);
            CHECK.due("BODIES of n " + n, x.rule(1), n <= 6 ? n : 0);
        }
    }

    /** read: "the first met": a FAULT of the machine or what find() refuses, whichever is ahead. */
    private static void readTheFirstMet() {
        Twin t = new Twin(CHECK, () -> laid(1, 0, 0, 4, 0, 0));
        t.leaves("find() refuses the second, the third is torn", x -> x.read(3, 1, 0, 3), -21);
        t.answers("CELL 4 is half of one", x -> x.read(3, 1, 4, 3) * 10L + x.torn(), INDEX);
        ProofFine x = Check.told("village 0 0;");
        x.sheet(0, 0, 12);
        CHECK.due("six whole, the seventh torn ahead of FULL", x.read(0, 0, 0, 7), 6);
        CHECK.due("torn(): INDEX", x.torn(), INDEX);
        CHECK.due("all six came", x.rule(1), 6);
        CHECK.due("torn ahead of FULL", x.read(0, 0, 11, 1), 0);
        CHECK.due("torn(): INDEX again", x.torn(), INDEX);
        CHECK.due("another lane ahead of FULL", x.read(0, 1, 0, 1), 0);
        CHECK.due("torn(): CAST", x.torn(), CAST);
        CHECK.due("nothing ahead of FULL", x.read(1, 1, 0, 1), 0);
        CHECK.due("torn(): NULL", x.torn(), NULL);
        x = Check.told("village 0 0;");
        x.sheet(0, 0, 14);
        CHECK.due("the seventh is whole: FULL", x.read(0, 0, 0, 8), -26);
        CHECK.due("none came", x.rule(1), 0);
    }

    /** read: "as by find() without kin", "one behind another". */
    private static void readWithoutKin() {
        ProofFine x = laid(2, 3, 2);
        CHECK.due("one came", x.read(3, 2, 0, 1), 1);
        int[] want = {3, 2, 0, 0, 0, 6};
        for (int what = 0; what <= 5; what++) {
            CHECK.due("body(5, " + what + ")", x.body(5, what), want[what]);
        }
        x = Check.told("village 0 0;village 0 0;village 0 0;village 0 0;");
        x.sheet(0, 0, 40);
        for (int i = 0; i < 12; i++) {
            x.lay(0, 28 + i, i / 2 % 4);
        }
        CHECK.due("the last six of 40 CELLS", x.read(0, 0, 28, 6), 6);
        for (int b = 0; b < 6; b++) {
            CHECK.due("KIND of " + b, x.body(b, 0), b % 4);
            CHECK.due("VILLAGE of " + b, x.body(b, 1), b % 4);
        }
    }

    /** torn: "The FAULT of the latest read() that came to an end; 0." */
    private static void tornOfTheLatest() {
        ProofFine x = Lands.rich();
        CHECK.due("INDEX", x.torn(), INDEX);
        x.read(4, 0, 0, 1);
        x.read(0, 3, 0, 1);
        x.read(0, 0, 0, 21);
        CHECK.due("a BAD one did not come to an end", x.torn(), INDEX);
        x.sheet(3, 0, 2);
        x.lay(3, 0, 4);
        CHECK.due("one that find() refuses", x.read(3, 0, 0, 1), -20);
        CHECK.due("did not come to an end", x.torn(), INDEX);
        x.read(0, 1, 0, 1);
        CHECK.due("CAST", x.torn(), CAST);
        CHECK.due("CAST, asked again", x.torn(), CAST);
        CHECK.due("one that find() refuses again", x.read(3, 0, 0, 1), -20);
        CHECK.due("CAST still", x.torn(), CAST);
        x.read(0, 0, 0, 0);
        CHECK.due("none", x.torn(), 0);
        CHECK.due("one that find() refuses then", x.read(3, 0, 0, 1), -20);
        CHECK.due("none still", x.torn(), 0);
        x.sheet(0, 0, -1);
        x.lay(0, 99, 0);
        CHECK.due("sheet(), lay() are no read()", x.torn(), 0);
        CHECK.due("the 6th comes", x.read(0, 0, 0, 1), 1);
        CHECK.due("none again", x.torn(), 0);
        RICH.leaves("torn()", ProofFine::torn, INDEX);
        EMPTY.leaves("torn() of a new one", ProofFine::torn, 0);
    }

    /** count: what 0 to 5. "BAD." */
    private static void countBounds() {
        RICH.bounds("count", (x, what) -> x.count(what), 0, 110, 5, 12);
        int[] want = {110, 2, 1, 8, 5, 12};
        for (int what = 0; what <= 5; what++) {
            int which = what;
            RICH.leaves("count(" + what + ")", x -> x.count(which), want[what]);
        }
        ProofFine x = Check.told("village 99 9;village 99 9;village 99 9;village 99 9;");
        CHECK.due("all MEANS", x.count(0), 396);
        for (int b = 0; b < 6; b++) {
            x.find(3, 0, 0, 0);
            CHECK.due("LACKS of all", x.count(5), 6 * (b + 1));
        }
        x.set(4, 1);
        x.nights(1);
        CHECK.due("LACKS of those that lie, which are none", x.count(5), 0);
    }

    /** count: "4 CELLS of SHEET 0 (NONE: nothing)": a row of no CELLS is not nothing. */
    private static void countNothing() {
        EMPTY.bounds("count of nothing", (x, what) -> x.count(what), 0, 0, 5, 0);
        EMPTY.leaves("SHEET 0 is nothing", x -> x.count(4), NONE);
        ProofFine x = new ProofFine();
        x.sheet(1, 0, 7);
        CHECK.due("SHEET 1 is another", x.count(4), NONE);
        x.sheet(0, 0, -1);
        CHECK.due("nothing still", x.count(4), NONE);
        x.sheet(0, 0, 41);
        CHECK.due("nothing still", x.count(4), NONE);
        x.sheet(0, 0, 0);
        CHECK.due("a row of no CELLS", x.count(4), 0);
        x.sheet(0, 0, 1);
        CHECK.due("of one", x.count(4), 1);
        x.sheet(0, 0, 40);
        CHECK.due("of forty", x.count(4), 40);
    }
}
