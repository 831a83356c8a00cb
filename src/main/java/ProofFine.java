/**
 * Villages in a row answer for the dead found at them: each body is proved a native by its kin,
 * carried over the border by night, or fined when the crowner comes.
 *
 * <p>Every row is made in the constructor and used again, so that no call makes an object.
 */
public final class ProofFine {
    public static final int BAD = -1, STATE = -2, FULL = -3, NONE = -4;

    private static final int MOST_VILLAGES = 4, MOST_BODIES = 6, MOST_SEEN = 6;
    private static final int MOST_MEANS = 99, MOST_WATCH = 9, MOST_KIN = 9;
    private static final int MOST_PRICE = 20, MOST_FINE = 60, MOST_ROUND = 9;
    private static final int FIRST_PRICE = 5, FIRST_FINE = 46, FIRST_ROUND = 5;
    private static final int KINDS = 4, MIXED = 3;
    private static final int LIES = 0, PROVED = 1, FINED = 2;
    private static final int MOST_NIGHTS = 30, MOST_TRIED = 20, MOST_DRIFT = 60, LAST_LOOK = 9;
    private static final int DAYS = 1000;
    private static final int TENTHS = 10, MOST_DIVISIONS = 1000;
    private static final int ARRANGEMENTS = 24;
    private static final int NULL_FAULT = 1, INDEX_FAULT = 2, CAST_FAULT = 3, SIZE_FAULT = 4;
    private static final int SHEETS = 4, LANES = 3, MOST_CELLS = 40, MOST_READ = 20;
    private static final int IMAGES = 2;
    private static final int[] FATHER_NEEDS = {2, 3, 3, 4};
    private static final int[] MOTHER_NEEDS = {1, 1, 0, 2};

    private final World now = new World();
    private final World spare = new World();
    private final Sightings seen = new Sightings();
    private final Teller teller = new Teller();
    private final Image[] images = new Image[IMAGES];
    private final Sheet[] sheets = new Sheet[SHEETS];
    private final int[] turns = new int[MOST_VILLAGES];
    private final int[] bestTurns = new int[MOST_VILLAGES];
    private final int[] spots = new int[KINDS * (LAST_LOOK + 1)];
    private int tornFault;

    public ProofFine() {
        for (int i = 0; i < IMAGES; i++) {
            images[i] = new Image();
        }
        for (int i = 0; i < SHEETS; i++) {
            sheets[i] = new Sheet();
        }
    }

    // ---- the text

    public int feed(int c) {
        if (!within(c, 0, 127)) {
            return BAD;
        }
        return teller.tape.append(c) ? teller.tape.length : FULL;
    }

    public int end(int n) {
        int had = teller.tape.length;
        if (!within(n, 0, had)) {
            return BAD;
        }
        teller.tape.length = n;
        return had;
    }

    public int text() {
        int lines = teller.tell(spare);
        teller.tape.length = 0;
        if (teller.fault != 0) {
            return -10 - teller.faultPlace;
        }
        now.become(spare);
        seen.many = 0;
        for (int i = 0; i < IMAGES; i++) {
            images[i].kept = false;
        }
        return lines;
    }

    public int fault() {
        return teller.fault;
    }

    public int rule(int what) {
        switch (what) {
            case 0: return now.villages;
            case 1: return now.bodies;
            case 2: return now.price;
            case 3: return now.fine;
            case 4: return now.round;
            case 5: return now.day;
            case 6: return now.inWay(LIES);
            case 7: return now.inWay(PROVED);
            case 8: return now.inWay(FINED);
            case 9: return now.ruined;
            default: return BAD;
        }
    }

    public int village(int v, int what) {
        if (!now.hasVillage(v)) {
            return BAD;
        }
        switch (what) {
            case 0: return now.means[v];
            case 1: return now.guards[v];
            case 2: return now.lyingAt(v);
            default: return BAD;
        }
    }

    public int body(int b, int what) {
        if (!now.hasBody(b)) {
            return BAD;
        }
        switch (what) {
            case 0: return now.kindOf[b];
            case 1: return now.at[b];
            case 2: return now.fatherKin[b];
            case 3: return now.motherKin[b];
            case 4: return now.way[b];
            case 5: return now.lacks(b);
            default: return BAD;
        }
    }

    // ---- what is changed

    public int grant(int g, int what, int v) {
        if (!now.hasVillage(g) || !within(what, 0, 1)) {
            return BAD;
        }
        if (!within(v, 0, what == 0 ? MOST_MEANS : MOST_WATCH)) {
            return BAD;
        }
        int[] row = what == 0 ? now.means : now.guards;
        int was = row[g];
        row[g] = v;
        return was;
    }

    public int alter(int b, int what, int v) {
        if (!now.hasBody(b) || !within(what, 0, 3) || !mayBecome(what, v)) {
            return BAD;
        }
        if (now.way[b] != LIES) {
            return STATE;
        }
        int[] row = now.bodyRow(what);
        int was = row[b];
        row[b] = v;
        return was;
    }

    private boolean mayBecome(int what, int v) {
        switch (what) {
            case 0: return within(v, 0, KINDS - 1);
            case 1: return now.hasVillage(v);
            default: return within(v, 0, MOST_KIN);
        }
    }

    public int set(int what, int v) {
        int was;
        if (what == 2 && within(v, 0, MOST_PRICE)) {
            was = now.price;
            now.price = v;
        } else if (what == 3 && within(v, 0, MOST_FINE)) {
            was = now.fine;
            now.fine = v;
        } else if (what == 4 && within(v, 1, MOST_ROUND)) {
            was = now.round;
            now.round = v;
        } else {
            was = BAD;
        }
        return was;
    }

    public int find(int kind, int g, int f, int m) {
        return addFound(kind, g, f, m);
    }

    private int addFound(int kind, int g, int f, int m) {
        if (!within(kind, 0, KINDS - 1) || !now.hasVillage(g)) {
            return BAD;
        }
        if (!within(f, 0, MOST_KIN) || !within(m, 0, MOST_KIN)) {
            return BAD;
        }
        return now.addBody(kind, g, f, m) ? now.bodies - 1 : FULL;
    }

    public int hire(int b) {
        if (!now.hasBody(b)) {
            return BAD;
        }
        if (now.way[b] != LIES || now.lacks(b) == 0 || now.means[now.at[b]] < now.price) {
            return STATE;
        }
        now.means[now.at[b]] -= now.price;
        if (now.lacksOfFather(b)) {
            now.fatherKin[b]++;
        } else {
            now.motherKin[b]++;
        }
        return now.lacks(b);
    }

    // ---- nights

    public int nights(int n) {
        if (!within(n, 0, MOST_NIGHTS)) {
            return BAD;
        }
        return now.day + n >= DAYS ? FULL : now.pass(n);
    }

    public int runs(int n, int what) {
        if (!within(n, 0, MOST_NIGHTS) || !within(what, 0, 4)) {
            return BAD;
        }
        World then = fromNow();
        int paid = then.pass(n);
        switch (what) {
            case 0: return paid;
            case 1: return then.inWay(PROVED);
            case 2: return then.inWay(FINED);
            case 3: return then.carried;
            default: return then.ruined;
        }
    }

    public int ahead(int b, int n, int what) {
        if (!now.hasBody(b) || !within(n, 0, MOST_NIGHTS) || !within(what, 0, 1)) {
            return BAD;
        }
        World then = fromNow();
        then.pass(n);
        return what == 0 ? then.at[b] : then.way[b];
    }

    public int settled(int b) {
        if (!now.hasBody(b)) {
            return BAD;
        }
        World then = fromNow();
        for (int n = 0; n <= MOST_NIGHTS; n++) {
            if (then.way[b] != LIES) {
                return n;
            }
            then.passOne();
        }
        return NONE;
    }

    // ---- what is best

    public int dear(int n) {
        if (!within(n, 0, MOST_TRIED)) {
            return BAD;
        }
        int wanted = provedByPrice(0, n);
        for (int price = MOST_PRICE; price > 0; price--) {
            if (provedByPrice(price, n) == wanted) {
                return price;
            }
        }
        return 0;
    }

    private int provedByPrice(int price, int n) {
        World then = fromNow();
        then.price = price;
        then.pass(n);
        return Integer.bitCount(then.inWay(PROVED));
    }

    public int mild(int n) {
        if (!within(n, 0, MOST_TRIED)) {
            return BAD;
        }
        for (int fine = MOST_FINE; fine >= 0; fine--) {
            World then = fromNow();
            then.fine = fine;
            then.pass(n);
            if (then.ruined == 0) {
                return fine;
            }
        }
        return NONE;
    }

    public int watch(int n, int what) {
        if (!within(n, 0, MOST_TRIED) || !within(what, 0, 1)) {
            return BAD;
        }
        int best = NONE;
        int most = 0;
        for (int v = 0; v < now.villages; v++) {
            int gain = meansBehind(v, n, MOST_WATCH) - meansBehind(v, n, now.guards[v]);
            if (gain > most) {
                best = v;
                most = gain;
            }
        }
        return what == 0 || best == NONE ? best : most;
    }

    private int meansBehind(int v, int n, int guard) {
        World then = fromNow();
        then.guards[v] = guard;
        then.pass(n);
        return then.means[v];
    }

    public int place(int b, int n, int what) {
        if (!now.hasBody(b) || !within(n, 0, MOST_TRIED) || !within(what, 0, 1)) {
            return BAD;
        }
        if (now.way[b] != LIES) {
            return STATE;
        }
        int best = NONE;
        int least = 0;
        for (int v = 0; v < now.villages; v++) {
            World then = fromNow();
            then.at[b] = v;
            int paid = then.pass(n);
            if (best == NONE || paid < least) {
                best = v;
                least = paid;
            }
        }
        return what == 0 ? best : least;
    }

    public int kin(int n, int what) {
        if (!within(n, 0, MOST_TRIED) || !within(what, 0, 1)) {
            return BAD;
        }
        int best = NONE;
        int least = fromNow().pass(n);
        for (int b = 0; b < now.bodies; b++) {
            if (now.way[b] == LIES) {
                World then = fromNow();
                then.fatherKin[b]++;
                int paid = then.pass(n);
                if (paid < least) {
                    best = b;
                    least = paid;
                }
            }
        }
        return what == 0 || best == NONE ? best : least;
    }

    public int late(int n) {
        if (!within(n, 0, MOST_TRIED)) {
            return BAD;
        }
        int best = 0;
        int least = 0;
        for (int round = 1; round <= MOST_ROUND; round++) {
            World then = fromNow();
            then.round = round;
            int paid = then.pass(n);
            if (best == 0 || paid < least) {
                best = round;
                least = paid;
            }
        }
        return best;
    }

    public int order(int n, int what) {
        if (!within(n, 0, MOST_TRIED) || (what != 0 && what < 10)) {
            return BAD;
        }
        if (what != 0 && what - 10 >= now.villages) {
            return NONE;
        }
        int paid = findBestTurns(n);
        return what == 0 ? paid : bestTurns[what - 10];
    }

    /** Goes through the arrangements by numbers, so that the first of several stays. */
    private int findBestTurns(int n) {
        System.arraycopy(now.turns, 0, turns, 0, MOST_VILLAGES);
        System.arraycopy(now.turns, 0, bestTurns, 0, MOST_VILLAGES);
        int least = paidByTurns(n);
        for (int i = 1; i < ARRANGEMENTS && arrangeNext(turns, now.villages); i++) {
            int paid = paidByTurns(n);
            if (paid < least) {
                least = paid;
                System.arraycopy(turns, 0, bestTurns, 0, MOST_VILLAGES);
            }
        }
        return least;
    }

    private int paidByTurns(int n) {
        World then = fromNow();
        System.arraycopy(turns, 0, then.turns, 0, MOST_VILLAGES);
        return then.pass(n);
    }

    private static boolean arrangeNext(int[] row, int length) {
        int i = length - 2;
        while (i >= 0 && row[i] > row[i + 1]) {
            i--;
        }
        if (i < 0) {
            return false;
        }
        int j = length - 1;
        while (j > i && row[j] < row[i]) {
            j--;
        }
        swap(row, i, j);
        int low = i + 1;
        int high = length - 1;
        while (low < high) {
            swap(row, low, high);
            low++;
            high--;
        }
        return true;
    }

    private static void swap(int[] row, int i, int j) {
        int held = row[i];
        row[i] = row[j];
        row[j] = held;
    }

    // ---- kinds by odds

    public long mean(int v, int n, int what) {
        if (!within(v, 0, TENTHS) || !within(n, 0, MOST_TRIED) || !within(what, 0, 1)) {
            return BAD;
        }
        return partOfFraction(weighAll(v, NONE, n), weightOfAll(), what);
    }

    public long luck(int v, int b, int n, int what) {
        if (!within(v, 0, TENTHS) || !now.hasBody(b)) {
            return BAD;
        }
        if (!within(n, 0, MOST_TRIED) || !within(what, 0, 1)) {
            return BAD;
        }
        return partOfFraction(weighAll(v, b, n), weightOfAll(), what);
    }

    /** Sums, over who may be mixed, its weight times PAID (b is NONE) or times 1 where b is fined. */
    private long weighAll(int v, int b, int n) {
        int lying = now.inWay(LIES);
        long sum = 0;
        for (int mixed = 0; mixed < 1 << now.bodies; mixed++) {
            if ((mixed & ~lying) == 0) {
                long weight = weightOf(mixed, lying, v);
                // what can not be needs no nights run
                if (weight != 0) {
                    sum += weight * outcome(mixed, b, n);
                }
            }
        }
        return sum;
    }

    private static long weightOf(int mixed, int lying, int v) {
        long weight = 1;
        for (int b = 0; b < MOST_BODIES; b++) {
            if ((lying >> b & 1) == 1) {
                weight *= (mixed >> b & 1) == 1 ? v : TENTHS - v;
            }
        }
        return weight;
    }

    private long weightOfAll() {
        long weight = 1;
        for (int i = Integer.bitCount(now.inWay(LIES)); i > 0; i--) {
            weight *= TENTHS;
        }
        return weight;
    }

    private int outcome(int mixed, int b, int n) {
        World then = fromNow();
        for (int i = 0; i < then.bodies; i++) {
            if ((mixed >> i & 1) == 1) {
                then.kindOf[i] = MIXED;
            }
        }
        int paid = then.pass(n);
        if (b == NONE) {
            return paid;
        }
        return then.way[b] == FINED ? 1 : 0;
    }

    private static long partOfFraction(long above, long below, int what) {
        long divisor = greatestDivisor(above, below);
        if (divisor == 0) {
            return 0;
        }
        return what == 0 ? above / divisor : below / divisor;
    }

    private static long greatestDivisor(long a, long b) {
        for (int i = 0; i < MOST_DIVISIONS && b != 0; i++) {
            long rest = a % b;
            a = b;
            b = rest;
        }
        return a;
    }

    // ---- by where he lay

    public int see(int b, int n, int g) {
        if (!now.hasBody(b) || !within(n, 0, LAST_LOOK) || !now.hasVillage(g)) {
            return BAD;
        }
        return seen.add(b, n, g) ? seen.many : FULL;
    }

    public int forget(int n) {
        int were = seen.many;
        if (!within(n, 0, were)) {
            return BAD;
        }
        seen.many = n;
        return were;
    }

    public int kinds(int b) {
        return now.hasBody(b) ? asSeenBy(b, 0, KINDS - 1) : BAD;
    }

    public int fathers(int b) {
        return now.hasBody(b) ? asSeenBy(b, 2, MOST_KIN) : BAD;
    }

    /** Bits of the numbers 0 to most for which, in row what of a body, all is as seen. */
    private int asSeenBy(int b, int what, int most) {
        int bits = 0;
        for (int value = 0; value <= most; value++) {
            World then = fromNow();
            then.bodyRow(what)[b] = value;
            if (isAsSeen(then)) {
                bits |= 1 << value;
            }
        }
        return bits;
    }

    private boolean isAsSeen(World then) {
        for (int n = 0; n <= LAST_LOOK; n++) {
            if (!seen.fit(then, n)) {
                return false;
            }
            then.passOne();
        }
        return true;
    }

    public int look(int b, int what) {
        if (!now.hasBody(b) || !within(what, 0, 1)) {
            return BAD;
        }
        int open = asSeenBy(b, 0, KINDS - 1);
        noteSpots(b);
        int best = NONE;
        int least = Integer.bitCount(open);
        for (int n = 0; n <= LAST_LOOK; n++) {
            int left = leftAtWorst(open, n);
            if (left < least) {
                best = n;
                least = left;
            }
        }
        return what == 0 || best == NONE ? best : least;
    }

    private void noteSpots(int b) {
        for (int kind = 0; kind < KINDS; kind++) {
            World then = fromNow();
            then.kindOf[b] = kind;
            for (int n = 0; n <= LAST_LOOK; n++) {
                spots[kind * (LAST_LOOK + 1) + n] = then.at[b];
                then.passOne();
            }
        }
    }

    private int leftAtWorst(int open, int n) {
        int worst = 0;
        for (int v = 0; v < now.villages; v++) {
            int left = 0;
            for (int kind = 0; kind < KINDS; kind++) {
                if ((open >> kind & 1) == 1 && spots[kind * (LAST_LOOK + 1) + n] == v) {
                    left++;
                }
            }
            worst = left > worst ? left : worst;
        }
        return worst;
    }

    // ---- by a seed

    public int drift(int seed, int n, int what) {
        if (!within(n, 1, MOST_DRIFT) || !within(what, 0, 1)) {
            return BAD;
        }
        if (now.villages == 0) {
            return STATE;
        }
        World then = fromNow();
        int paid = 0;
        int drawn = seed;
        for (int i = 0; i < n; i++) {
            drawn = drawn * 1103515245 + 12345;
            int got = drawn >> 16 & 0x7fff;
            then.guards[got % then.villages] = got / 8 % 10;
            paid += then.pass(1);
        }
        return what == 0 ? paid : then.inWay(FINED);
    }

    // ---- images, sheets

    public int keep(int k) {
        if (!within(k, 0, IMAGES - 1)) {
            return BAD;
        }
        Image image = images[k];
        int was = image.kept ? 1 : 0;
        image.kept = true;
        image.world.become(now);
        image.seen.become(seen);
        return was;
    }

    public int back(int k) {
        if (!within(k, 0, IMAGES - 1)) {
            return BAD;
        }
        Image image = images[k];
        if (!image.kept) {
            return STATE;
        }
        now.become(image.world);
        seen.become(image.seen);
        return now.day;
    }

    public int sheet(int k, int lane, int n) {
        if (!within(k, 0, SHEETS - 1) || !within(lane, 0, LANES - 1) || n > MOST_CELLS) {
            return BAD;
        }
        if (n < 0) {
            return -10 - SIZE_FAULT;
        }
        sheets[k].renew(lane, n);
        return 1;
    }

    public int lay(int k, int i, int v) {
        if (!within(k, 0, SHEETS - 1)) {
            return BAD;
        }
        int fault = sheets[k].faultAt(i);
        if (fault != 0) {
            return -10 - fault;
        }
        sheets[k].put(i, v);
        return 1;
    }

    public int read(int k, int lane, int f, int n) {
        if (!within(k, 0, SHEETS - 1) || !within(lane, 0, LANES - 1) || !within(n, 0, MOST_READ)) {
            return BAD;
        }
        Sheet sheet = sheets[k];
        int before = now.bodies;
        int fault = 0;
        int came = 0;
        for (int i = 0; i < n && fault == 0; i++) {
            long first = (long) f + 2 * i;
            fault = sheet.faultOfPair(lane, first);
            if (fault == 0) {
                int cell = (int) first;
                if (addFound(sheet.cells[cell], sheet.cells[cell + 1], 0, 0) < 0) {
                    now.bodies = before;
                    return -20 - i;
                }
                came++;
            }
        }
        tornFault = fault;
        return came;
    }

    public int torn() {
        return tornFault;
    }

    public int count(int what) {
        switch (what) {
            case 0: return now.allMeans();
            case 1: return seen.many;
            case 2: return (images[0].kept ? 1 : 0) + (images[1].kept ? 1 : 0);
            case 3: return teller.tape.length;
            case 4: return sheets[0].there ? sheets[0].size : NONE;
            case 5: return now.lacksOfLying();
            default: return BAD;
        }
    }

    private static boolean within(int x, int least, int most) {
        return x >= least && x <= most;
    }

    /** The spare world as a copy of the real one; what is counted of nights begins anew in it. */
    private World fromNow() {
        spare.become(now);
        spare.ruined = 0;
        spare.carried = 0;
        return spare;
    }

    /** All that nights change and go by, so that a copy of it may run ahead. */
    private static final class World {
        int villages, bodies, price, fine, round, day, ruined, carried;
        final int[] means = new int[MOST_VILLAGES];
        final int[] guards = new int[MOST_VILLAGES];
        final int[] turns = new int[MOST_VILLAGES];
        final int[] kindOf = new int[MOST_BODIES];
        final int[] at = new int[MOST_BODIES];
        final int[] fatherKin = new int[MOST_BODIES];
        final int[] motherKin = new int[MOST_BODIES];
        final int[] way = new int[MOST_BODIES];

        World() {
            clear();
        }

        void clear() {
            villages = 0;
            bodies = 0;
            price = FIRST_PRICE;
            fine = FIRST_FINE;
            round = FIRST_ROUND;
            day = 0;
            ruined = 0;
            carried = 0;
            takeTurnsByNumber();
        }

        void takeTurnsByNumber() {
            for (int i = 0; i < MOST_VILLAGES; i++) {
                turns[i] = i;
            }
        }

        void become(World other) {
            villages = other.villages;
            bodies = other.bodies;
            price = other.price;
            fine = other.fine;
            round = other.round;
            day = other.day;
            ruined = other.ruined;
            carried = other.carried;
            System.arraycopy(other.means, 0, means, 0, MOST_VILLAGES);
            System.arraycopy(other.guards, 0, guards, 0, MOST_VILLAGES);
            System.arraycopy(other.turns, 0, turns, 0, MOST_VILLAGES);
            System.arraycopy(other.kindOf, 0, kindOf, 0, MOST_BODIES);
            System.arraycopy(other.at, 0, at, 0, MOST_BODIES);
            System.arraycopy(other.fatherKin, 0, fatherKin, 0, MOST_BODIES);
            System.arraycopy(other.motherKin, 0, motherKin, 0, MOST_BODIES);
            System.arraycopy(other.way, 0, way, 0, MOST_BODIES);
        }

        boolean hasVillage(int v) {
            return v >= 0 && v < villages;
        }

        boolean hasBody(int b) {
            return b >= 0 && b < bodies;
        }

        boolean addVillage(int itsMeans, int itsGuard) {
            if (villages >= MOST_VILLAGES) {
                return false;
            }
            means[villages] = itsMeans;
            guards[villages] = itsGuard;
            villages++;
            return true;
        }

        boolean addBody(int kind, int v, int father, int mother) {
            if (bodies >= MOST_BODIES) {
                return false;
            }
            kindOf[bodies] = kind;
            at[bodies] = v;
            fatherKin[bodies] = father;
            motherKin[bodies] = mother;
            way[bodies] = LIES;
            bodies++;
            return true;
        }

        /** The row of what may be altered of a body, by its number in the document. */
        int[] bodyRow(int what) {
            switch (what) {
                case 0: return kindOf;
                case 1: return at;
                case 2: return fatherKin;
                default: return motherKin;
            }
        }

        boolean lacksOfFather(int b) {
            return FATHER_NEEDS[kindOf[b]] > fatherKin[b];
        }

        int lacks(int b) {
            int ofFather = FATHER_NEEDS[kindOf[b]] - fatherKin[b];
            int ofMother = MOTHER_NEEDS[kindOf[b]] - motherKin[b];
            return (ofFather > 0 ? ofFather : 0) + (ofMother > 0 ? ofMother : 0);
        }

        int lacksOfLying() {
            int sum = 0;
            for (int b = 0; b < bodies; b++) {
                if (way[b] == LIES) {
                    sum += lacks(b);
                }
            }
            return sum;
        }

        int inWay(int which) {
            int bits = 0;
            for (int b = 0; b < bodies; b++) {
                if (way[b] == which) {
                    bits |= 1 << b;
                }
            }
            return bits;
        }

        int lyingAt(int v) {
            int bits = 0;
            for (int b = 0; b < bodies; b++) {
                if (at[b] == v && way[b] == LIES) {
                    bits |= 1 << b;
                }
            }
            return bits;
        }

        int allMeans() {
            int sum = 0;
            for (int v = 0; v < villages; v++) {
                sum += means[v];
            }
            return sum;
        }

        /** Runs n nights: what is paid in them. */
        int pass(int n) {
            int before = allMeans();
            for (int i = 0; i < n; i++) {
                passOne();
            }
            return before - allMeans();
        }

        void passOne() {
            for (int i = 0; i < villages; i++) {
                takeTurn(turns[i]);
            }
            day++;
            if (round > 0 && day % round == 0) {
                fineAll();
            }
        }

        private void takeTurn(int v) {
            int b = firstLyingAt(v);
            if (b == NONE) {
                return;
            }
            int lacking = lacks(b);
            int cost = price * lacking;
            if (lacking == 0) {
                way[b] = PROVED;
            } else if (cost < fine && cost <= means[v]) {
                means[v] -= cost;
                way[b] = PROVED;
            } else {
                handOn(b, v);
            }
        }

        private int firstLyingAt(int v) {
            for (int b = 0; b < bodies; b++) {
                if (at[b] == v && way[b] == LIES) {
                    return b;
                }
            }
            return NONE;
        }

        private void handOn(int b, int v) {
            int next = v + 1 < villages ? v + 1 : 0;
            if (next == v) {
                return;
            }
            if (guards[next] == 0) {
                at[b] = next;
                carried++;
            } else {
                guards[next]--;
            }
        }

        private void fineAll() {
            for (int b = 0; b < bodies; b++) {
                if (way[b] == LIES) {
                    int v = at[b];
                    if (means[v] < fine) {
                        ruined |= 1 << v;
                        means[v] = 0;
                    } else {
                        means[v] -= fine;
                    }
                    way[b] = FINED;
                }
            }
        }
    }

    /** What was seen: behind which night which body is at which village. */
    private static final class Sightings {
        int many;
        private final int[] who = new int[MOST_SEEN];
        private final int[] when = new int[MOST_SEEN];
        private final int[] where = new int[MOST_SEEN];

        boolean add(int b, int n, int g) {
            if (many >= MOST_SEEN) {
                return false;
            }
            who[many] = b;
            when[many] = n;
            where[many] = g;
            many++;
            return true;
        }

        /** Whether a world that n nights have been run in is as seen behind n nights. */
        boolean fit(World then, int n) {
            for (int i = 0; i < many; i++) {
                if (when[i] == n && then.at[who[i]] != where[i]) {
                    return false;
                }
            }
            return true;
        }

        void become(Sightings other) {
            many = other.many;
            System.arraycopy(other.who, 0, who, 0, MOST_SEEN);
            System.arraycopy(other.when, 0, when, 0, MOST_SEEN);
            System.arraycopy(other.where, 0, where, 0, MOST_SEEN);
        }
    }

    /** An image; its rows are there from the beginning, kept or not. */
    private static final class Image {
        boolean kept;
        final World world = new World();
        final Sightings seen = new Sightings();
    }

    /** A row of bytes, shorts or ints, or nothing; it tells what the machine would refuse. */
    private static final class Sheet {
        boolean there;
        int size;
        final int[] cells = new int[MOST_CELLS];
        private int lane;

        void renew(int itsLane, int n) {
            there = true;
            lane = itsLane;
            size = n;
            for (int i = 0; i < MOST_CELLS; i++) {
                cells[i] = 0;
            }
        }

        int faultAt(long i) {
            if (!there) {
                return NULL_FAULT;
            }
            return i < 0 || i >= size ? INDEX_FAULT : 0;
        }

        /** The lane is looked at with each pair: a sheet of which no pair is read refuses nothing. */
        int faultOfPair(int taken, long first) {
            if (there && lane != taken) {
                return CAST_FAULT;
            }
            int fault = faultAt(first);
            return fault != 0 ? fault : faultAt(first + 1);
        }

        void put(int i, int v) {
            if (lane == 0) {
                cells[i] = (byte) v;
            } else if (lane == 1) {
                cells[i] = (short) v;
            } else {
                cells[i] = v;
            }
        }
    }

    /** The tape, cut into tokens one at a time. */
    private static final class Tape {
        static final int LENGTH = 160;
        static final int END = 0, NAME = 1, NUMBER = 2, STOP = 3, WRONG = 4;

        int length;
        /** Where the latest token begins, and where the one behind it is looked for. */
        int start, next;
        private final int[] bytes = new int[LENGTH];

        boolean append(int c) {
            if (length >= LENGTH) {
                return false;
            }
            bytes[length] = c;
            length++;
            return true;
        }

        int take() {
            while (next < length && bytes[next] == ' ') {
                next++;
            }
            start = next;
            if (start >= length) {
                return END;
            }
            if (passRun('a', 'z')) {
                return NAME;
            }
            if (passRun('0', '9')) {
                return next - start > 2 ? WRONG : NUMBER;
            }
            next++;
            return bytes[start] == ';' ? STOP : WRONG;
        }

        private boolean passRun(int least, int most) {
            while (next < length && bytes[next] >= least && bytes[next] <= most) {
                next++;
            }
            return next > start;
        }

        int number() {
            int value = 0;
            for (int i = start; i < next; i++) {
                value = value * 10 + bytes[i] - '0';
            }
            return value;
        }

        boolean isWord(String word) {
            if (word.length() != next - start) {
                return false;
            }
            for (int i = 0; i < word.length(); i++) {
                if (bytes[start + i] != word.charAt(i)) {
                    return false;
                }
            }
            return true;
        }
    }

    /** Reads the lines of the tape into a world, up to the first fault. */
    private static final class Teller {
        private static final int VILLAGE = 0, LAST_OF_BODIES = KINDS, PRICE = 5, FINE = 6, ROUND = 7;
        private static final int LINES = 8, MOST_NUMBERS = 3;
        private static final int NO_TOKEN = 1, NO_PLACE = 2, NO_BOUNDS = 3;
        private static final int TWICE = 4, TOO_MANY = 5, NO_VILLAGE = 6;

        final Tape tape = new Tape();
        int fault, faultPlace;
        private final int[] numbers = new int[MOST_NUMBERS];
        private int told;

        /** How many lines were told; what is told counts only if there is no fault then. */
        int tell(World world) {
            tape.next = 0;
            fault = 0;
            told = 0;
            world.clear();
            // a line takes more than one byte, so the tape ends first
            for (int lines = 0; lines < Tape.LENGTH; lines++) {
                int token = tape.take();
                if (token == Tape.END) {
                    checkPlaces(world);
                    return lines;
                }
                takeLine(token, world);
                if (fault != 0) {
                    return 0;
                }
            }
            return 0;
        }

        private void takeLine(int token, World world) {
            if (!expect(token, Tape.NAME)) {
                return;
            }
            int line = lineOf();
            if (line == NONE) {
                refuse(NO_PLACE, tape.start);
            } else if ((told >> line & 1) == 1) {
                refuse(TWICE, tape.start);
            } else if (hasNoRoom(line, world)) {
                refuse(TOO_MANY, tape.start);
            } else if (takeNumbers(line) && expect(tape.take(), Tape.STOP)) {
                enter(line, world);
            }
        }

        private boolean hasNoRoom(int line, World world) {
            if (line == VILLAGE) {
                return world.villages >= MOST_VILLAGES;
            }
            return line <= LAST_OF_BODIES && world.bodies >= MOST_BODIES;
        }

        private boolean takeNumbers(int line) {
            int many = line == VILLAGE ? 2 : line <= LAST_OF_BODIES ? 3 : 1;
            for (int i = 0; i < many; i++) {
                if (!expect(tape.take(), Tape.NUMBER)) {
                    return false;
                }
                int value = tape.number();
                if (value > most(line, i) || (line == ROUND && value == 0)) {
                    refuse(NO_BOUNDS, tape.start);
                    return false;
                }
                numbers[i] = value;
            }
            return true;
        }

        private static int most(int line, int i) {
            switch (line) {
                case VILLAGE: return i == 0 ? MOST_MEANS : MOST_WATCH;
                case PRICE: return MOST_PRICE;
                case FINE: return MOST_FINE;
                case ROUND: return MOST_ROUND;
                default: return i == 0 ? MOST_VILLAGES - 1 : MOST_KIN;
            }
        }

        private void enter(int line, World world) {
            switch (line) {
                case VILLAGE:
                    world.addVillage(numbers[0], numbers[1]);
                    break;
                case PRICE:
                    world.price = numbers[0];
                    told |= 1 << line;
                    break;
                case FINE:
                    world.fine = numbers[0];
                    told |= 1 << line;
                    break;
                case ROUND:
                    world.round = numbers[0];
                    told |= 1 << line;
                    break;
                default:
                    world.addBody(line - 1, numbers[0], numbers[1], numbers[2]);
                    break;
            }
        }

        /** A body may stand ahead of its village, so this is known only behind all lines. */
        private void checkPlaces(World world) {
            for (int b = 0; b < world.bodies; b++) {
                if (!world.hasVillage(world.at[b])) {
                    refuse(NO_VILLAGE, tape.length);
                }
            }
        }

        private boolean expect(int token, int wanted) {
            if (token == wanted) {
                return true;
            }
            refuse(token == Tape.WRONG ? NO_TOKEN : NO_PLACE, tape.start);
            return false;
        }

        private void refuse(int which, int where) {
            fault = which;
            faultPlace = where;
        }

        private int lineOf() {
            for (int line = 0; line < LINES; line++) {
                if (tape.isWord(word(line))) {
                    return line;
                }
            }
            return NONE;
        }

        private static String word(int line) {
            switch (line) {
                case VILLAGE: return "village";
                case 1: return "plain";
                case 2: return "river";
                case 3: return "adopted";
                case 4: return "mixed";
                case PRICE: return "price";
                case FINE: return "fine";
                default: return "round";
            }
        }
    }
}
