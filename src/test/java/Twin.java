import java.util.ArrayList;
import java.util.List;
import java.util.function.Supplier;

/**
 * Asks calls of new objects made alike, and compares all that can be asked behind a call with a twin
 * that was never asked it: so it is seen what a refused call, or one that only asks, leaves as it was.
 */
final class Twin {
    /** A call with its numbers. */
    interface Ask {
        long of(ProofFine x);
    }

    /** A call of which one number is tried. */
    interface Try {
        long of(ProofFine x, int number);
    }

    /** All that can be asked of an object, in three runs so that none comes near 512 calls. */
    private static final int PARTS = 3;
    private static final int MOST_CELLS = 40;

    private final Check check;
    private final Supplier<ProofFine> make;
    private final List<Answers> left = new ArrayList<>();

    Twin(Check check, Supplier<ProofFine> make) {
        this.check = check;
        this.make = make;
        for (int part = 0; part < PARTS; part++) {
            left.add(Answers.of(make.get(), part));
        }
    }

    /** The answer of a new object. */
    void answers(String call, Ask ask, long want) {
        check.due(call, ask.of(make.get()), want);
    }

    /** The answer of a new object, and that nothing is changed by the call. */
    void leaves(String call, Ask ask, long want) {
        answers(call, ask, want);
        for (int part = 0; part < PARTS; part++) {
            ProofFine x = make.get();
            ask.of(x);
            left.get(part).compare(check, "behind " + call + ": ", Answers.of(x, part));
        }
    }

    /** That a call which only asks answers the same again, and that nothing is changed by it. */
    void leaves(String call, Ask ask) {
        ProofFine x = make.get();
        long first = ask.of(x);
        check.due(call + " asked again", ask.of(x), first);
        leaves(call, ask, first);
    }

    /** The least and the greatest number are taken; those beside them and far off are BAD. */
    void bounds(String call, Try ask, int low, long atLow, int high, long atHigh) {
        answers(call + " of " + low, x -> ask.of(x, low), atLow);
        answers(call + " of " + high, x -> ask.of(x, high), atHigh);
        bad(call, ask, low - 1, high + 1, Integer.MIN_VALUE, Integer.MAX_VALUE);
    }

    /** Numbers that are BAD, each leaving all as it was. */
    void bad(String call, Try ask, int... numbers) {
        for (int number : numbers) {
            leaves(call + " of " + number, x -> ask.of(x, number), ProofFine.BAD);
        }
    }

    /** Answers with the calls that they answer. */
    private static final class Answers {
        private final List<String> calls = new ArrayList<>();
        private final List<Long> answers = new ArrayList<>();

        static Answers of(ProofFine x, int part) {
            Answers a = new Answers();
            switch (part) {
                case 0: a.land(x); a.sightings(x); a.images(x); break;
                case 1: a.tape(x); break;
                default: a.sheets(x); break;
            }
            return a;
        }

        void compare(Check check, String behind, Answers other) {
            check.due(behind + "as many answers", other.calls.size(), calls.size());
            for (int i = 0; i < Math.min(calls.size(), other.calls.size()); i++) {
                check.due(behind + calls.get(i), other.answers.get(i), answers.get(i));
            }
        }

        private long note(String call, long answer) {
            calls.add(call);
            answers.add(answer);
            return answer;
        }

        private void land(ProofFine x) {
            for (int what = 0; what <= 9; what++) {
                note("rule(" + what + ")", x.rule(what));
            }
            for (int v = 0; v < x.rule(0); v++) {
                note("MEANS of " + v, x.village(v, 0));
                note("WATCH of " + v, x.village(v, 1));
            }
            for (int b = 0; b < x.rule(1); b++) {
                for (int what = 0; what <= 4; what++) {
                    note("body(" + b + ", " + what + ")", x.body(b, what));
                }
            }
            for (int what = 0; what <= 5; what++) {
                note("count(" + what + ")", x.count(what));
            }
            note("fault()", x.fault());
            note("torn()", x.torn());
        }

        /** What was seen shows in the kinds that fit; the latest is forgotten first. */
        private void sightings(ProofFine x) {
            for (int n = x.count(1); n >= 0; n--) {
                note("forget(" + n + ")", x.forget(n));
                for (int b = 0; b < x.rule(1); b++) {
                    note("kinds(" + b + ") by " + n, x.kinds(b));
                }
            }
        }

        private void images(ProofFine x) {
            for (int k = 0; k < 2; k++) {
                if (note("back(" + k + ")", x.back(k)) >= 0) {
                    land(x);
                    sightings(x);
                }
            }
        }

        private void tape(ProofFine x) {
            note("text()", x.text());
            land(x);
        }

        private void sheets(ProofFine x) {
            x.end(0);
            Check.tell(x, "village 0 0;village 0 0;village 0 0;village 0 0;");
            x.keep(0);
            for (int k = 0; k < 4; k++) {
                for (int lane = 0; lane < 3; lane++) {
                    cells(x, k, lane);
                }
                int size = 0;
                while (size < MOST_CELLS && x.lay(k, size, 0) == 1) {
                    size++;
                }
                note("CELLS of " + k, size);
            }
        }

        private void cells(ProofFine x, int k, int lane) {
            long came = 1;
            for (int f = 0; came != 0 && f < MOST_CELLS; f++) {
                came = note("read(" + k + ", " + lane + ", " + f + ", 1)", x.read(k, lane, f, 1));
                note("torn() then", x.torn());
                note("its KIND", x.body(0, 0));
                note("its VILLAGE", x.body(0, 1));
                x.back(0);
            }
        }
    }
}
