import java.math.BigInteger;
import java.util.ArrayList;
import java.util.HashMap;
import java.util.List;
import java.util.Map;
import java.util.function.Consumer;
import java.util.function.ToIntFunction;
import java.util.regex.Matcher;
import java.util.regex.Pattern;

/**
 * The document once more, in another way: small objects, library lists, the machine's own
 * exceptions for sheets. RandomTest asks the same of this and of ProofFine.
 */
final class Model {
    static final int BAD = -1, STATE = -2, FULL = -3, NONE = -4;

    static final class Village {
        int means, watch;
        boolean ruined;

        Village(int means, int watch) {
            this.means = means;
            this.watch = watch;
        }
    }

    static final class Body {
        int kind, at, father, mother, way;

        Body(int kind, int at, int father, int mother) {
            this.kind = kind;
            this.at = at;
            this.father = father;
            this.mother = mother;
        }

        int lacksFather() {
            int need = kind == 0 ? 2 : kind == 3 ? 2 * 2 : 2 + 1;
            return Math.max(need - father, 0);
        }

        int lacks() {
            int need = kind == 2 ? 0 : kind == 3 ? 2 * 1 : 1;
            return lacksFather() + Math.max(need - mother, 0);
        }
    }

    /** A state that can be copied whole. */
    static final class Land {
        List<Village> villages = new ArrayList<>();
        List<Body> bodies = new ArrayList<>();
        List<int[]> seen = new ArrayList<>();
        int price = 5, fine = 46, round = 5, day = 0, carried = 0;

        Land copy() {
            Land c = new Land();
            for (Village v : villages) {
                Village w = new Village(v.means, v.watch);
                w.ruined = v.ruined;
                c.villages.add(w);
            }
            for (Body b : bodies) {
                Body d = new Body(b.kind, b.at, b.father, b.mother);
                d.way = b.way;
                c.bodies.add(d);
            }
            c.seen.addAll(seen);
            c.price = price;
            c.fine = fine;
            c.round = round;
            c.day = day;
            return c;
        }

        int wealth() {
            return villages.stream().mapToInt(v -> v.means).sum();
        }

        int ways(int way) {
            int bits = 0;
            for (int i = 0; i < bodies.size(); i++) {
                bits += bodies.get(i).way == way ? 1 << i : 0;
            }
            return bits;
        }

        int ruins() {
            int bits = 0;
            for (int i = 0; i < villages.size(); i++) {
                bits += villages.get(i).ruined ? 1 << i : 0;
            }
            return bits;
        }

        void night(List<Integer> order) {
            for (int v : order) {
                Body taken = null;
                for (Body b : bodies) {
                    if (taken == null && b.at == v && b.way == 0) {
                        taken = b;
                    }
                }
                if (taken != null) {
                    takes(v, taken);
                }
            }
            if ((day + 1) % round == 0) {
                for (Body b : bodies) {
                    if (b.way == 0) {
                        Village home = villages.get(b.at);
                        home.ruined |= home.means < fine;
                        home.means = Math.max(home.means - fine, 0);
                        b.way = 2;
                    }
                }
            }
            day++;
        }

        private void takes(int v, Body b) {
            Village home = villages.get(v);
            int cost = price * b.lacks();
            if (b.lacks() == 0) {
                b.way = 1;
                return;
            }
            if (cost < fine && cost <= home.means) {
                home.means -= cost;
                b.way = 1;
                return;
            }
            int next = (v + 1) % villages.size();
            if (next != v) {
                if (villages.get(next).watch == 0) {
                    b.at = next;
                    carried++;
                } else {
                    villages.get(next).watch--;
                }
            }
        }

        List<Integer> byNumber() {
            List<Integer> all = new ArrayList<>();
            for (int i = 0; i < villages.size(); i++) {
                all.add(i);
            }
            return all;
        }

        int nights(int n) {
            int had = wealth();
            for (int i = 0; i < n; i++) {
                night(byNumber());
            }
            return had - wealth();
        }
    }

    Land land = new Land();
    private final Land[] images = new Land[2];
    private final Object[] sheets = new Object[4];
    private final StringBuilder tape = new StringBuilder();
    private int fault, torn;

    private static boolean in(int x, int low, int high) {
        return low <= x && x <= high;
    }

    private boolean isV(int v) {
        return in(v, 0, land.villages.size() - 1);
    }

    private boolean isB(int b) {
        return in(b, 0, land.bodies.size() - 1);
    }

    private Land then(Consumer<Land> change) {
        Land c = land.copy();
        c.villages.forEach(v -> v.ruined = false);
        change.accept(c);
        return c;
    }

    int feed(int c) {
        if (!in(c, 0, 127)) {
            return BAD;
        }
        if (tape.length() == 160) {
            return FULL;
        }
        tape.append((char) c);
        return tape.length();
    }

    int end(int n) {
        int had = tape.length();
        if (!in(n, 0, had)) {
            return BAD;
        }
        tape.setLength(n);
        return had;
    }

    /** What ends the reading of a text. */
    private static final class Refusal extends Exception {
        private static final long serialVersionUID = 1;
        final int fault, place;

        Refusal(int fault, int place) {
            this.fault = fault;
            this.place = place;
        }
    }

    private static final Pattern TOKEN = Pattern.compile(" *([a-z]+|[0-9]+|;|[^ ]|$)", Pattern.DOTALL);
    private static final Map<String, int[][]> LINES = new HashMap<>();

    static {
        LINES.put("village", new int[][] {{0, 99}, {0, 9}});
        for (String kind : new String[] {"plain", "river", "adopted", "mixed"}) {
            LINES.put(kind, new int[][] {{0, 3}, {0, 9}, {0, 9}});
        }
        LINES.put("price", new int[][] {{0, 20}});
        LINES.put("fine", new int[][] {{0, 60}});
        LINES.put("round", new int[][] {{1, 9}});
    }

    private int place;

    private String token(String text, Matcher m) throws Refusal {
        if (place == text.length() || !m.find(place) || m.group(1).isEmpty()) {
            place = text.length();
            return "";
        }
        String t = m.group(1);
        place = m.start(1);
        if (!t.matches("[a-z]+|[0-9]{1,2}|;")) {
            throw new Refusal(1, place);
        }
        return t;
    }

    int text() {
        String text = tape.toString();
        tape.setLength(0);
        Land told = new Land();
        try {
            int lines = tell(text, told);
            land = told;
            images[0] = null;
            images[1] = null;
            fault = 0;
            return lines;
        } catch (Refusal r) {
            fault = r.fault;
            return -10 - r.place;
        }
    }

    private int tell(String text, Land told) throws Refusal {
        Matcher m = TOKEN.matcher(text);
        List<String> once = new ArrayList<>();
        place = 0;
        int lines = 0;
        for (String name = token(text, m); !name.isEmpty(); name = token(text, m)) {
            int[][] bounds = LINES.get(name);
            if (bounds == null) {
                throw new Refusal(2, place);
            }
            if (once.contains(name)) {
                throw new Refusal(4, place);
            }
            int kind = List.of("plain", "river", "adopted", "mixed").indexOf(name);
            if (name.equals("village") && told.villages.size() == 4 || kind >= 0 && told.bodies.size() == 6) {
                throw new Refusal(5, place);
            }
            place += name.length();
            int[] n = new int[3];
            for (int i = 0; i < bounds.length; i++) {
                String number = token(text, m);
                if (!number.matches("[0-9]+")) {
                    throw new Refusal(2, place);
                }
                n[i] = Integer.parseInt(number);
                if (!in(n[i], bounds[i][0], bounds[i][1])) {
                    throw new Refusal(3, place);
                }
                place += number.length();
            }
            if (!token(text, m).equals(";")) {
                throw new Refusal(2, place);
            }
            place++;
            lines++;
            if (kind >= 0) {
                told.bodies.add(new Body(kind, n[0], n[1], n[2]));
            } else if (name.equals("village")) {
                told.villages.add(new Village(n[0], n[1]));
            } else {
                once.add(name);
                if (name.equals("price")) {
                    told.price = n[0];
                } else if (name.equals("fine")) {
                    told.fine = n[0];
                } else {
                    told.round = n[0];
                }
            }
        }
        if (told.bodies.stream().anyMatch(b -> b.at >= told.villages.size())) {
            throw new Refusal(6, text.length());
        }
        return lines;
    }

    int fault() {
        return fault;
    }

    int rule(int what) {
        if (!in(what, 0, 9)) {
            return BAD;
        }
        return new int[] {land.villages.size(), land.bodies.size(), land.price, land.fine, land.round,
            land.day, land.ways(0), land.ways(1), land.ways(2), land.ruins()}[what];
    }

    int village(int v, int what) {
        if (!isV(v) || !in(what, 0, 2)) {
            return BAD;
        }
        int bits = 0;
        for (int i = 0; i < land.bodies.size(); i++) {
            Body b = land.bodies.get(i);
            bits += b.at == v && b.way == 0 ? 1 << i : 0;
        }
        return new int[] {land.villages.get(v).means, land.villages.get(v).watch, bits}[what];
    }

    int body(int b, int what) {
        if (!isB(b) || !in(what, 0, 5)) {
            return BAD;
        }
        Body x = land.bodies.get(b);
        return new int[] {x.kind, x.at, x.father, x.mother, x.way, x.lacks()}[what];
    }

    int grant(int g, int what, int v) {
        if (!isV(g) || !in(what, 0, 1) || !in(v, 0, what == 0 ? 99 : 9)) {
            return BAD;
        }
        int was = village(g, what);
        if (what == 0) {
            land.villages.get(g).means = v;
        } else {
            land.villages.get(g).watch = v;
        }
        return was;
    }

    int alter(int b, int what, int v) {
        if (!isB(b) || !in(what, 0, 3) || !in(v, 0, 9) || what == 0 && v > 3 || what == 1 && !isV(v)) {
            return BAD;
        }
        Body x = land.bodies.get(b);
        if (x.way != 0) {
            return STATE;
        }
        int was = body(b, what);
        change(x, what, v);
        return was;
    }

    private static void change(Body x, int what, int v) {
        if (what == 0) {
            x.kind = v;
        } else if (what == 1) {
            x.at = v;
        } else if (what == 2) {
            x.father = v;
        } else {
            x.mother = v;
        }
    }

    int set(int what, int v) {
        if (!in(what, 2, 4) || !in(v, what == 4 ? 1 : 0, what == 2 ? 20 : what == 3 ? 60 : 9)) {
            return BAD;
        }
        int was = rule(what);
        if (what == 2) {
            land.price = v;
        } else if (what == 3) {
            land.fine = v;
        } else {
            land.round = v;
        }
        return was;
    }

    int find(int kind, int g, int f, int m) {
        if (!in(kind, 0, 3) || !isV(g) || !in(f, 0, 9) || !in(m, 0, 9)) {
            return BAD;
        }
        if (land.bodies.size() == 6) {
            return FULL;
        }
        land.bodies.add(new Body(kind, g, f, m));
        return land.bodies.size() - 1;
    }

    int hire(int b) {
        if (!isB(b)) {
            return BAD;
        }
        Body x = land.bodies.get(b);
        Village home = land.villages.get(x.at);
        if (x.way != 0 || x.lacks() == 0 || home.means < land.price) {
            return STATE;
        }
        home.means -= land.price;
        if (x.lacksFather() > 0) {
            x.father++;
        } else {
            x.mother++;
        }
        return x.lacks();
    }

    int nights(int n) {
        if (!in(n, 0, 30)) {
            return BAD;
        }
        return land.day + n >= 1000 ? FULL : land.nights(n);
    }

    int runs(int n, int what) {
        if (!in(n, 0, 30) || !in(what, 0, 4)) {
            return BAD;
        }
        Land c = then(l -> { });
        int paid = c.nights(n);
        return new int[] {paid, c.ways(1), c.ways(2), c.carried, c.ruins()}[what];
    }

    int ahead(int b, int n, int what) {
        if (!isB(b) || !in(n, 0, 30) || !in(what, 0, 1)) {
            return BAD;
        }
        Body x = then(l -> l.nights(n)).bodies.get(b);
        return what == 0 ? x.at : x.way;
    }

    int settled(int b) {
        if (!isB(b)) {
            return BAD;
        }
        for (int n = 0; n <= 30; n++) {
            if (ahead(b, n, 1) != 0) {
                return n;
            }
        }
        return NONE;
    }

    /** The first of the numbers low to high by which an amount is least. */
    private static int leastBy(int low, int high, ToIntFunction<Integer> amount) {
        int best = low;
        for (int i = low; i <= high; i++) {
            if (amount.applyAsInt(i) < amount.applyAsInt(best)) {
                best = i;
            }
        }
        return best;
    }

    private int paid(int n, Consumer<Land> change) {
        return then(change).nights(n);
    }

    int dear(int n) {
        if (!in(n, 0, 20)) {
            return BAD;
        }
        int best = 0;
        for (int p = 0; p <= 20; p++) {
            best = provedBy(p, n) == provedBy(0, n) ? p : best;
        }
        return best;
    }

    int provedBy(int price, int n) {
        return Integer.bitCount(then(l -> {
            l.price = price;
            l.nights(n);
        }).ways(1));
    }

    int mild(int n) {
        if (!in(n, 0, 20)) {
            return BAD;
        }
        int best = NONE;
        for (int f = 0; f <= 60; f++) {
            int fine = f;
            best = then(l -> {
                l.fine = fine;
                l.nights(n);
            }).ruins() == 0 ? f : best;
        }
        return best;
    }

    int watch(int n, int what) {
        if (!in(n, 0, 20) || !in(what, 0, 1)) {
            return BAD;
        }
        if (land.villages.isEmpty()) {
            return NONE;
        }
        ToIntFunction<Integer> loss = v -> then(l -> l.nights(n)).villages.get(v).means
            - then(l -> {
                l.villages.get(v).watch = 9;
                l.nights(n);
            }).villages.get(v).means;
        int best = leastBy(0, land.villages.size() - 1, loss);
        int gain = -loss.applyAsInt(best);
        return gain < 1 ? NONE : what == 0 ? best : gain;
    }

    int place(int b, int n, int what) {
        if (!isB(b) || !in(n, 0, 20) || !in(what, 0, 1)) {
            return BAD;
        }
        if (land.bodies.get(b).way != 0) {
            return STATE;
        }
        ToIntFunction<Integer> cost = v -> paid(n, l -> l.bodies.get(b).at = v);
        int best = leastBy(0, land.villages.size() - 1, cost);
        return what == 0 ? best : cost.applyAsInt(best);
    }

    int kin(int n, int what) {
        if (!in(n, 0, 20) || !in(what, 0, 1)) {
            return BAD;
        }
        int asItIs = paid(n, l -> { });
        ToIntFunction<Integer> cost = b -> land.bodies.get(b).way != 0 ? asItIs
            : paid(n, l -> l.bodies.get(b).father++);
        if (land.bodies.isEmpty()) {
            return NONE;
        }
        int best = leastBy(0, land.bodies.size() - 1, cost);
        int least = cost.applyAsInt(best);
        return least >= asItIs ? NONE : what == 0 ? best : least;
    }

    int late(int n) {
        return in(n, 0, 20) ? leastBy(1, 9, r -> paid(n, l -> l.round = r)) : BAD;
    }

    int order(int n, int what) {
        if (!in(n, 0, 20) || what != 0 && what < 10) {
            return BAD;
        }
        List<List<Integer>> all = new ArrayList<>();
        arrange(new ArrayList<>(), all);
        ToIntFunction<Integer> cost = i -> {
            Land c = then(l -> { });
            int had = c.wealth();
            for (int k = 0; k < n; k++) {
                c.night(all.get(i));
            }
            return had - c.wealth();
        };
        int best = leastBy(0, all.size() - 1, cost);
        if (what == 0) {
            return cost.applyAsInt(best);
        }
        return what - 10 < land.villages.size() ? all.get(best).get(what - 10) : NONE;
    }

    private void arrange(List<Integer> begun, List<List<Integer>> all) {
        if (begun.size() == land.villages.size()) {
            all.add(new ArrayList<>(begun));
        }
        for (int v = 0; v < land.villages.size(); v++) {
            if (!begun.contains(v)) {
                begun.add(v);
                arrange(begun, all);
                begun.remove(begun.size() - 1);
            }
        }
    }

    long mean(int v, int n, int what) {
        if (!in(v, 0, 10) || !in(n, 0, 20) || !in(what, 0, 1)) {
            return BAD;
        }
        return part(spread(v, 0, land, c -> c.copy().nights(n)), what);
    }

    long luck(int v, int b, int n, int what) {
        if (!in(v, 0, 10) || !isB(b) || !in(n, 0, 20) || !in(what, 0, 1)) {
            return BAD;
        }
        return part(spread(v, 0, land, c -> {
            Land d = c.copy();
            d.nights(n);
            return d.bodies.get(b).way == 2 ? 1 : 0;
        }), what);
    }

    /** The mean as a fraction: body after body is mixed or not. */
    private BigInteger[] spread(int v, int b, Land c, ToIntFunction<Land> amount) {
        if (b == c.bodies.size()) {
            return new BigInteger[] {BigInteger.valueOf(amount.applyAsInt(c)), BigInteger.ONE};
        }
        if (c.bodies.get(b).way != 0) {
            return spread(v, b + 1, c, amount);
        }
        Land mixed = c.copy();
        mixed.bodies.get(b).kind = 3;
        BigInteger[] x = spread(v, b + 1, mixed, amount);
        BigInteger[] y = spread(v, b + 1, c, amount);
        return new BigInteger[] {
            x[0].multiply(y[1]).multiply(BigInteger.valueOf(v))
                .add(y[0].multiply(x[1]).multiply(BigInteger.valueOf(10 - v))),
            x[1].multiply(y[1]).multiply(BigInteger.TEN)};
    }

    private static long part(BigInteger[] f, int what) {
        return f[what].divide(f[0].gcd(f[1])).longValueExact();
    }

    int see(int b, int n, int g) {
        if (!isB(b) || !in(n, 0, 9) || !isV(g)) {
            return BAD;
        }
        if (land.seen.size() == 6) {
            return FULL;
        }
        land.seen.add(new int[] {b, n, g});
        return land.seen.size();
    }

    int forget(int n) {
        int were = land.seen.size();
        if (!in(n, 0, were)) {
            return BAD;
        }
        land.seen = new ArrayList<>(land.seen.subList(0, n));
        return were;
    }

    private int fitting(int b, int what, int most) {
        int bits = 0;
        for (int v = 0; v <= most; v++) {
            int value = v;
            boolean all = land.seen.stream().allMatch(s -> then(l -> {
                change(l.bodies.get(b), what, value);
                l.nights(s[1]);
            }).bodies.get(s[0]).at == s[2]);
            bits += all ? 1 << v : 0;
        }
        return bits;
    }

    int kinds(int b) {
        return isB(b) ? fitting(b, 0, 3) : BAD;
    }

    int fathers(int b) {
        return isB(b) ? fitting(b, 2, 9) : BAD;
    }

    int look(int b, int what) {
        if (!isB(b) || !in(what, 0, 1)) {
            return BAD;
        }
        int open = kinds(b);
        ToIntFunction<Integer> worst = n -> {
            Map<Integer, Integer> groups = new HashMap<>();
            for (int k = 0; k < 4; k++) {
                int kind = k;
                if ((open & 1 << k) != 0) {
                    groups.merge(then(l -> {
                        l.bodies.get(b).kind = kind;
                        l.nights(n);
                    }).bodies.get(b).at, 1, Integer::sum);
                }
            }
            return groups.values().stream().mapToInt(i -> i).max().orElse(0);
        };
        int best = leastBy(0, 9, worst);
        int left = worst.applyAsInt(best);
        return left >= Integer.bitCount(open) ? NONE : what == 0 ? best : left;
    }

    int drift(int seed, int n, int what) {
        if (!in(n, 1, 60) || !in(what, 0, 1)) {
            return BAD;
        }
        if (land.villages.isEmpty()) {
            return STATE;
        }
        Land c = land.copy();
        BigInteger s = BigInteger.valueOf(seed);
        int had = c.wealth();
        for (int i = 0; i < n; i++) {
            s = s.multiply(BigInteger.valueOf(1103515245)).add(BigInteger.valueOf(12345));
            int got = 0;
            for (int bit = 16; bit <= 30; bit++) {
                got += s.testBit(bit) ? 1 << (bit - 16) : 0;
            }
            c.villages.get(got % c.villages.size()).watch = got / 8 % 10;
            c.nights(1);
        }
        return what == 0 ? had - c.wealth() : c.ways(2);
    }

    int keep(int k) {
        if (!in(k, 0, 1)) {
            return BAD;
        }
        int was = images[k] == null ? 0 : 1;
        images[k] = land.copy();
        return was;
    }

    int back(int k) {
        if (!in(k, 0, 1)) {
            return BAD;
        }
        if (images[k] == null) {
            return STATE;
        }
        land = images[k].copy();
        return land.day;
    }

    int sheet(int k, int lane, int n) {
        if (!in(k, 0, 3) || !in(lane, 0, 2) || n > 40) {
            return BAD;
        }
        try {
            sheets[k] = lane == 0 ? new byte[n] : lane == 1 ? new short[n] : new int[n];
            return 1;
        } catch (NegativeArraySizeException e) {
            return -14;
        }
    }

    int lay(int k, int i, int v) {
        if (!in(k, 0, 3)) {
            return BAD;
        }
        try {
            if (sheets[k] instanceof byte[]) {
                ((byte[]) sheets[k])[i] = (byte) v;
            } else if (sheets[k] instanceof short[]) {
                ((short[]) sheets[k])[i] = (short) v;
            } else {
                ((int[]) sheets[k])[i] = v;
            }
            return 1;
        } catch (NullPointerException e) {
            return -11;
        } catch (ArrayIndexOutOfBoundsException e) {
            return -12;
        }
    }

    int read(int k, int lane, int f, int n) {
        if (!in(k, 0, 3) || !in(lane, 0, 2) || !in(n, 0, 20)) {
            return BAD;
        }
        List<Body> before = new ArrayList<>(land.bodies);
        int came = 0;
        int met = 0;
        try {
            for (int i = f; came < n; i += 2) {
                int kind = cell(sheets[k], lane, i);
                int g = cell(sheets[k], lane, i + 1);
                if (find(kind, g, 0, 0) < 0) {
                    land.bodies = before;
                    return -20 - came;
                }
                came++;
            }
        } catch (NullPointerException e) {
            met = 1;
        } catch (ArrayIndexOutOfBoundsException e) {
            met = 2;
        } catch (ClassCastException e) {
            met = 3;
        }
        torn = met;
        return came;
    }

    private static int cell(Object row, int lane, int i) {
        switch (lane) {
            case 0: return ((byte[]) row)[i];
            case 1: return ((short[]) row)[i];
            default: return ((int[]) row)[i];
        }
    }

    int torn() {
        return torn;
    }

    int count(int what) {
        if (!in(what, 0, 5)) {
            return BAD;
        }
        int cells = sheets[0] == null ? NONE : java.lang.reflect.Array.getLength(sheets[0]);
        return new int[] {land.wealth(), land.seen.size(),
            (images[0] == null ? 0 : 1) + (images[1] == null ? 0 : 1), tape.length(), cells,
            land.bodies.stream().filter(b -> b.way == 0).mapToInt(Body::lacks).sum()}[what];
    }
}
