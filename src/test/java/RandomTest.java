import java.util.Random;

/** All promises: runs of random calls, asked of ProofFine and of the model of the document. */
public final class RandomTest {
    private static final Check CHECK = new Check("RandomTest");
    private static final int CALLS = 512;
    private static final String[] WORDS = {"village ", "plain ", "river ", "adopted ", "mixed ", "price ", "fine ",
        "round ", ";", " ", "pl", "$"};

    private final Random random;
    private ProofFine x;
    private Model y;
    private int left;
    private StringBuilder told;

    private RandomTest(long seed) {
        random = new Random(seed);
    }

    public static void main(String[] args) {
        int objects = args.length > 0 ? Integer.parseInt(args[0]) : 500;
        for (int i = 0; i < objects; i++) {
            new RandomTest(i).run(i);
        }
        CHECK.end();
    }

    private void run(int number) {
        x = new ProofFine();
        y = new Model();
        left = CALLS;
        told = new StringBuilder("object " + number + ":");
        if (random.nextInt(10) > 0) {
            tell(goodText());
        }
        while (left > 0) {
            if (random.nextInt(60) == 0) {
                tell(random.nextInt(3) == 0 ? spoilt(goodText()) : random.nextInt(4) == 0 ? words() : goodText());
            } else {
                call();
            }
        }
    }

    private int any(int low, int high) {
        return low + random.nextInt(high - low + 1);
    }

    /** Mostly a number within the bounds, now and then one beside them. */
    private int near(int low, int high) {
        int way = random.nextInt(40);
        if (way == 0) {
            return low - 1;
        }
        if (way == 1) {
            return high + 1;
        }
        if (way == 2 && random.nextInt(4) == 0) {
            return random.nextBoolean() ? Integer.MIN_VALUE : Integer.MAX_VALUE;
        }
        if (way < 6) {
            return random.nextBoolean() ? low : high;
        }
        return any(low, high);
    }

    private String goodText() {
        StringBuilder s = new StringBuilder();
        int villages = any(1, 4);
        for (int i = 0; i < villages; i++) {
            s.append("village ").append(any(0, random.nextInt(3) == 0 ? 99 : 35)).append(' ')
                .append(random.nextInt(2) * any(0, 3)).append(';');
        }
        String[] rules = {"price " + any(0, 20) + ";", "fine " + any(0, 60) + ";", "round " + any(1, 9) + ";"};
        for (String rule : rules) {
            s.append(random.nextInt(3) > 0 ? rule : "");
        }
        int bodies = any(0, 6);
        for (int i = 0; i < bodies && s.length() < 140; i++) {
            s.append(WORDS[any(1, 4)]).append(any(0, villages - 1)).append(' ').append(any(0, 4)).append(' ')
                .append(any(0, 2)).append(';');
        }
        return s.toString();
    }

    private String spoilt(String text) {
        StringBuilder s = new StringBuilder(text);
        int i = random.nextInt(s.length());
        switch (random.nextInt(4)) {
            case 0: s.deleteCharAt(i); break;
            case 1: s.insert(i, (char) any(32, 127)); break;
            case 2: s.insert(i, any(0, 9)); break;
            default: s.setCharAt(i, "0123456789; aepx#".charAt(random.nextInt(17))); break;
        }
        return s.toString();
    }

    private String words() {
        StringBuilder s = new StringBuilder();
        for (int i = any(1, 14); i > 0; i--) {
            s.append(random.nextBoolean() ? WORDS[random.nextInt(WORDS.length)] : any(0, 12) + " ");
        }
        return s.toString();
    }

    private void tell(String text) {
        if (left < text.length() + 2) {
            call();
            return;
        }
        for (char c : text.toCharArray()) {
            due("feed", x.feed(c), y.feed(c), c);
        }
        due("text", x.text(), y.text());
        due("fault", x.fault(), y.fault());
    }

    private void due(String call, long got, long want, int... args) {
        left--;
        if (!call.equals("feed")) {
            StringBuilder s = new StringBuilder(" " + call + "(");
            for (int a : args) {
                s.append(a).append(' ');
            }
            told.append(s).append(")");
        }
        CHECK.due(got == want ? call : told.toString(), got, want);
    }

    private void call() {
        switch (random.nextInt(8)) {
            case 0: plain(); break;
            case 1: change(); break;
            case 2: run(); break;
            case 3: best(); break;
            case 4: odds(); break;
            case 5: sight(); break;
            case 6: image(); break;
            default: cells(); break;
        }
    }

    private void plain() {
        int a = near(0, 5);
        int w = near(0, 9);
        switch (random.nextInt(7)) {
            case 0: due("rule", x.rule(w), y.rule(w), w); break;
            case 1: due("village", x.village(a, w % 3), y.village(a, w % 3), a, w % 3); break;
            case 2: due("village", x.village(a, w), y.village(a, w), a, w); break;
            case 3: due("body", x.body(a, w), y.body(a, w), a, w); break;
            case 4: due("count", x.count(a), y.count(a), a); break;
            case 5: due("end", x.end(a), y.end(a), a); break;
            default: due("feed", x.feed(w * 20), y.feed(w * 20), w * 20); break;
        }
    }

    private void change() {
        int a = near(0, 5);
        int v = near(0, 3);
        int w = near(0, 9);
        int m = near(0, 99);
        int s = near(2, 4);
        switch (random.nextInt(8)) {
            case 0: due("grant", x.grant(v, 0, m), y.grant(v, 0, m), v, 0, m); break;
            case 1: due("grant", x.grant(v, a, w), y.grant(v, a, w), v, a, w); break;
            case 2: due("alter", x.alter(a, v, w), y.alter(a, v, w), a, v, w); break;
            case 3: due("alter", x.alter(a, 1, v), y.alter(a, 1, v), a, 1, v); break;
            case 4: due("set", x.set(s, w), y.set(s, w), s, w); break;
            case 5: due("set", x.set(s, m), y.set(s, m), s, m); break;
            case 6: due("find", x.find(v, a / 2, w, a), y.find(v, a / 2, w, a), v, a / 2, w, a); break;
            default: due("hire", x.hire(a), y.hire(a), a); break;
        }
    }

    private void run() {
        int n = near(0, 30);
        int few = near(0, 3);
        int b = near(0, 5);
        int w = near(0, 4);
        switch (random.nextInt(8)) {
            case 0: due("nights", x.nights(few), y.nights(few), few); break;
            case 1: {
                int far = random.nextInt(6) == 0 ? n : few;
                due("nights", x.nights(far), y.nights(far), far);
                break;
            }
            case 2: due("runs", x.runs(n, w), y.runs(n, w), n, w); break;
            case 3: due("runs", x.runs(few, w), y.runs(few, w), few, w); break;
            case 4: due("ahead", x.ahead(b, n, w), y.ahead(b, n, w), b, n, w); break;
            case 5: due("ahead", x.ahead(b, few, w % 2), y.ahead(b, few, w % 2), b, few, w % 2); break;
            default: due("settled", x.settled(b), y.settled(b), b); break;
        }
    }

    private void best() {
        int n = near(0, 20);
        int b = near(0, 5);
        int w = near(0, 1);
        int o = random.nextInt(3) == 0 ? near(0, 13) : near(10, 13);
        switch (random.nextInt(7)) {
            case 0: due("dear", x.dear(n), y.dear(n), n); break;
            case 1: due("mild", x.mild(n), y.mild(n), n); break;
            case 2: due("watch", x.watch(n, w), y.watch(n, w), n, w); break;
            case 3: due("place", x.place(b, n, w), y.place(b, n, w), b, n, w); break;
            case 4: due("kin", x.kin(n, w), y.kin(n, w), n, w); break;
            case 5: due("late", x.late(n), y.late(n), n); break;
            default: due("order", x.order(n, o), y.order(n, o), n, o); break;
        }
    }

    private void odds() {
        int v = near(0, 10);
        int b = near(0, 5);
        int n = near(0, 20);
        int w = near(0, 1);
        int seed = random.nextInt();
        int far = near(1, 60);
        switch (random.nextInt(3)) {
            case 0: due("mean", x.mean(v, n, w), y.mean(v, n, w), v, n, w); break;
            case 1: due("luck", x.luck(v, b, n, w), y.luck(v, b, n, w), v, b, n, w); break;
            default: due("drift", x.drift(seed, far, w), y.drift(seed, far, w), seed, far, w); break;
        }
    }

    private void sight() {
        int b = near(0, 5);
        int n = near(0, 9);
        int g = near(0, 3);
        int w = near(0, 1);
        switch (random.nextInt(6)) {
            case 0: {
                // mostly where it will be, so that some kinds are left
                int there = y.ahead(b, n, 0);
                int spot = random.nextInt(4) == 0 ? g : there;
                due("see", x.see(b, n, spot), y.see(b, n, spot), b, n, spot);
                break;
            }
            case 1: due("forget", x.forget(n / 2), y.forget(n / 2), n / 2); break;
            case 2: due("kinds", x.kinds(b), y.kinds(b), b); break;
            case 3: due("fathers", x.fathers(b), y.fathers(b), b); break;
            default: due("look", x.look(b, w), y.look(b, w), b, w); break;
        }
    }

    private void image() {
        int k = near(0, 1);
        switch (random.nextInt(3)) {
            case 0: due("keep", x.keep(k), y.keep(k), k); break;
            case 1: due("back", x.back(k), y.back(k), k); break;
            default: {
                int w = near(0, 5);
                due("count", x.count(w), y.count(w), w);
                break;
            }
        }
    }

    private void cells() {
        int k = near(0, 3);
        int lane = near(0, 2);
        int n = near(0, 40);
        int i = near(0, 9);
        int v = random.nextInt(4) == 0 ? random.nextInt() & 0xff030303 : near(0, 3);
        int reads = random.nextInt(5) == 0 ? near(0, 20) : near(0, 3);
        switch (random.nextInt(7)) {
            case 0: due("sheet", x.sheet(k, lane, n), y.sheet(k, lane, n), k, lane, n); break;
            case 1: due("sheet", x.sheet(k, lane, i), y.sheet(k, lane, i), k, lane, i); break;
            case 2: due("lay", x.lay(k, n, v), y.lay(k, n, v), k, n, v); break;
            case 3: due("lay", x.lay(k, i, v), y.lay(k, i, v), k, i, v); break;
            case 4: due("read", x.read(k, lane, n, reads), y.read(k, lane, n, reads), k, lane, n, reads); break;
            case 5: due("read", x.read(k, lane, i, reads), y.read(k, lane, i, reads), k, lane, i, reads); break;
            default: due("torn", x.torn(), y.torn()); break;
        }
    }
}
