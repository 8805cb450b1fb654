import java.util.Arrays;

/** Families of sets over at most six points, whose exchange is by difference. */
public final class ExchangeFamilies {
    public static final int NONE = -1, BAD = -2, STATE = -3;
    public static final long NO = Long.MIN_VALUE;

    private static final int MISSING = -11, OUTSIDE = -12, OTHER_SORT = -13, BELOW_ZERO = -14;
    private static final int NO_WEIGHT = -1000;

    private static final int MOST_POINTS = 6, FIRST_POINTS = 4, MOST_SETS = 64;
    private static final int FAMILIES = 6, ROWS = 4, MOST_NUMBERS = 80, MOST_WEIGHT = 99;
    private static final int SORTS = 4, BYTES = 0, SHORTS = 1, INTS = 2;
    private static final int MODULUS = 7;

    private static final int TOLD = 0, SIZED = 1, TABLED = 2, TWISTED = 3, REDUCED = 4, DUAL = 5;
    private static final int KINDS = 6;

    /** The KIND that each KIND is under. */
    private static final int[] ABOVE = {NONE, TOLD, TOLD, TOLD, TOLD, TWISTED};

    /** What makes 1 modulo 7, times the place. */
    private static final int[] INVERSE = {0, 1, 4, 5, 2, 3, 6};

    /** For each point all SETS that have it: a FAMILY is a long, its MEMBERS being the bits. */
    private static final long[] HAVING = {
        0xAAAAAAAAAAAAAAAAL, 0xCCCCCCCCCCCCCCCCL, 0xF0F0F0F0F0F0F0F0L,
        0xFF00FF00FF00FF00L, 0xFFFF0000FFFF0000L, 0xFFFFFFFF00000000L
    };

    private final Ground now = new Ground();
    private final Ground kept = new Ground();
    private boolean isKept = false;
    private final Table scratch = new Table();
    private final Sums sums = new Sums();
    private final Numbers[] numbers = new Numbers[ROWS];

    public ExchangeFamilies() {
        for (int row = 0; row < ROWS; row++) {
            numbers[row] = new Numbers();
        }
    }

    // ---- points, families

    public int ground(int n) {
        if (n < 1 || n > MOST_POINTS) {
            return BAD;
        }
        int before = now.n;
        now.begin(n);
        return before;
    }

    public int tell(int f, int set, int is) {
        if (noFamily(f) || noSet(set) || is < 0 || is > 1) {
            return BAD;
        }
        long before = now.members[f];
        long bit = 1L << set;
        now.become(f, is == 1 ? before | bit : before & ~bit, TOLD);
        return Family.holds(before, set) ? 1 : 0;
    }

    public int sized(int f, int least, int most) {
        if (noFamily(f) || least < 0 || most > now.n || least > most) {
            return BAD;
        }
        return now.become(f, Family.ofSizes(least, most, now.n), SIZED);
    }

    public int tabled(int f) {
        if (noFamily(f)) {
            return BAD;
        }
        long members = 0;
        for (int set = 0; set < 1 << now.n; set++) {
            if (determinant(set) != 0) {
                members |= 1L << set;
            }
        }
        return now.become(f, members, TABLED);
    }

    public int twist(int f, int set, int to) {
        if (noFamily(f) || noSet(set) || noFamily(to)) {
            return BAD;
        }
        if (now.isMissing(f)) {
            return MISSING;
        }
        return now.become(to, Family.twisted(now.members[f], set), TWISTED);
    }

    public int dual(int f, int to) {
        if (noFamily(f) || noFamily(to)) {
            return BAD;
        }
        if (now.isMissing(f)) {
            return MISSING;
        }
        int allPoints = (1 << now.n) - 1;
        return now.become(to, Family.twisted(now.members[f], allPoints), DUAL);
    }

    public int reduce(int f, int point, int way, int to) {
        if (noFamily(f) || noPoint(point) || way < 0 || way > 1 || noFamily(to)) {
            return BAD;
        }
        if (now.isMissing(f)) {
            return MISSING;
        }
        long members = now.members[f];
        long reduced = way == 0 ? Family.leftOut(members, point) : Family.drawnTogether(members, point);
        return now.become(to, reduced, REDUCED);
    }

    public int clear(int f) {
        if (noFamily(f)) {
            return BAD;
        }
        if (now.isMissing(f)) {
            return MISSING;
        }
        int before = Long.bitCount(now.members[f]);
        now.become(f, 0, NONE);
        return before;
    }

    public int has(int f, int set) {
        if (noFamily(f) || noSet(set)) {
            return BAD;
        }
        if (now.isMissing(f)) {
            return MISSING;
        }
        return Family.holds(now.members[f], set) ? 1 : 0;
    }

    public int member(int f, int k) {
        if (noFamily(f) || k < -1) {
            return BAD;
        }
        if (now.isMissing(f)) {
            return MISSING;
        }
        long members = now.members[f];
        if (k == -1) {
            return Long.bitCount(members);
        }
        if (k >= Long.bitCount(members)) {
            return OUTSIDE;
        }
        return Family.atPlace(members, k);
    }

    public int of(int f, int what) {
        if (noFamily(f) || what < 0 || what > 7) {
            return BAD;
        }
        if (now.isMissing(f)) {
            return MISSING;
        }
        long members = now.members[f];
        int sizes = Family.sizes(members);
        switch (what) {
            case 0: return now.kinds[f];
            case 1: return Family.isExchanging(members, now.n) ? 1 : 0;
            case 2: return Family.isEven(sizes) ? 1 : 0;
            case 3: return Integer.bitCount(sizes) <= 1 ? 1 : 0;
            case 4: return Family.loops(members, now.n);
            case 5: return Family.coloops(members, now.n);
            case 6: return leastBit(sizes);
            default: return greatestBit(sizes);
        }
    }

    public int taken(int f, int k) {
        if (noFamily(f) || k < 0 || k >= KINDS) {
            return BAD;
        }
        if (now.isMissing(f)) {
            return MISSING;
        }
        return isUnder(now.kinds[f], k) ? Long.bitCount(now.members[f]) : OTHER_SORT;
    }

    // ---- exchange

    public int fails(int f, int what) {
        if (noFamily(f) || what < 0 || what > 2) {
            return BAD;
        }
        if (now.isMissing(f)) {
            return MISSING;
        }
        long members = now.members[f];
        int x = Family.firstStuck(members, now.n);
        if (x == NONE || what == 0) {
            return x;
        }
        int y = Family.firstUnmet(members, x, now.n);
        return what == 1 ? y : Family.firstLonePoint(members, x, y, now.n);
    }

    public int partner(int f, int x, int y, int u) {
        if (noFamily(f) || noSet(x) || noSet(y) || noPoint(u)) {
            return BAD;
        }
        if (now.isMissing(f)) {
            return MISSING;
        }
        long members = now.members[f];
        int difference = x ^ y;
        if (!Family.holds(members, x) || !Family.holds(members, y) || (difference >> u & 1) == 0) {
            return STATE;
        }
        return leastBit(Family.partners(members, x, u, now.n) & difference);
    }

    public int near(int f, int set) {
        if (noFamily(f) || noSet(set)) {
            return BAD;
        }
        if (now.isMissing(f)) {
            return MISSING;
        }
        return leastBit(Family.sizes(Family.twisted(now.members[f], set)));
    }

    public int apart(int f, int x, int y) {
        if (noFamily(f) || noSet(x) || noSet(y)) {
            return BAD;
        }
        if (now.isMissing(f)) {
            return MISSING;
        }
        long members = now.members[f];
        if (!Family.holds(members, x) || !Family.holds(members, y)) {
            return STATE;
        }
        return Family.exchangesBetween(members, x, y, now.n);
    }

    // ---- weights

    public int weight(int point, int v) {
        if (noPoint(point) || v < -MOST_WEIGHT || v > MOST_WEIGHT) {
            return NO_WEIGHT;
        }
        int before = now.weights[point];
        now.weights[point] = v;
        return before;
    }

    public int weighs(int set) {
        return noSet(set) ? NO_WEIGHT : now.weightOf(set);
    }

    public int greed(int f) {
        if (noFamily(f)) {
            return BAD;
        }
        return now.isMissing(f) ? MISSING : now.byGreed(now.members[f]);
    }

    public int best(int f) {
        if (noFamily(f)) {
            return BAD;
        }
        return now.isMissing(f) ? MISSING : now.byLooking(now.members[f]);
    }

    // ---- the table

    public int entry(int i, int j, int v) {
        if (noPoint(i) || noPoint(j) || i == j || v < 0 || v >= MODULUS) {
            return BAD;
        }
        int before = now.table.at(i, j);
        now.table.write(i, j, v);
        return before;
    }

    public int entryOf(int i, int j) {
        return noPoint(i) || noPoint(j) ? BAD : now.table.at(i, j);
    }

    public int whole(int set) {
        return noSet(set) ? BAD : determinant(set);
    }

    public int pivot(int set) {
        if (noSet(set)) {
            return BAD;
        }
        if (determinant(set) == 0) {
            return STATE;
        }
        now.table.pivotOn(set);
        return now.table.notZero();
    }

    // ---- two families

    public int jumps(int f, int g, int what) {
        if (noFamily(f) || noFamily(g) || what < 0 || what > 3) {
            return BAD;
        }
        if (now.isMissing(f) || now.isMissing(g)) {
            return MISSING;
        }
        sums.fill(now.members[f], now.members[g], now.n);
        switch (what) {
            case 0: return sums.howMany();
            case 1: return sums.areSprung() ? 1 : 0;
            case 2: return sums.least();
            default: return sums.greatest();
        }
    }

    public int jump(int f, int g, int row) {
        if (noFamily(f) || noFamily(g) || row < 0 || row >= Sums.rowsOver(now.n)) {
            return BAD;
        }
        if (now.isMissing(f) || now.isMissing(g)) {
            return MISSING;
        }
        sums.fill(now.members[f], now.members[g], now.n);
        return sums.holdsNumber(row) ? 1 : 0;
    }

    public int same(int f, int g, int way) {
        if (noFamily(f) || noFamily(g) || way < 0 || way > 2) {
            return BAD;
        }
        if (now.isMissing(f) || now.isMissing(g)) {
            return MISSING;
        }
        long first = now.members[f];
        long second = now.members[g];
        switch (way) {
            case 0: return first == second ? 1 : 0;
            case 1: return Family.leastTwist(first, second, now.n);
            default: return Family.areAlike(first, second, 0, now.n) ? 1 : 0;
        }
    }

    // ---- rows

    public int row(int row, int sort, int n) {
        if (noRow(row) || sort < -1 || sort >= SORTS) {
            return BAD;
        }
        if (sort == -1) {
            numbers[row].begin(NONE, 0);
            return 1;
        }
        if (n > MOST_NUMBERS) {
            return BAD;
        }
        if (n < 0) {
            return BELOW_ZERO;
        }
        numbers[row].begin(sort, n);
        return 1;
    }

    public int put(int row, int i, long v) {
        if (noRow(row)) {
            return BAD;
        }
        if (numbers[row].isMissing()) {
            return MISSING;
        }
        if (!numbers[row].hasPlace(i)) {
            return OUTSIDE;
        }
        numbers[row].write(i, v);
        return 1;
    }

    public long get(int row, int i) {
        if (noRow(row) || numbers[row].isMissing() || !numbers[row].hasPlace(i)) {
            return NO;
        }
        return numbers[row].values[i];
    }

    public int copy(int row, int i, int other, int j, int n) {
        if (noRow(row) || noRow(other)) {
            return BAD;
        }
        Numbers from = numbers[row];
        Numbers to = numbers[other];
        if (from.isMissing() || to.isMissing()) {
            return MISSING;
        }
        if (from.sort != to.sort) {
            return OTHER_SORT;
        }
        if (!from.hasStretch(i, n) || !to.hasStretch(j, n)) {
            return OUTSIDE;
        }
        System.arraycopy(from.values, i, to.values, j, n);
        return n;
    }

    public int lay(int f, int row) {
        if (noFamily(f) || noRow(row)) {
            return BAD;
        }
        if (numbers[row].isMissing()) {
            return MISSING;
        }
        return now.become(f, numbers[row].asSets(now.n), TOLD);
    }

    public int film(int f, int row, int sort) {
        if (noFamily(f) || noRow(row) || sort < 0 || sort >= SORTS) {
            return BAD;
        }
        if (now.isMissing(f)) {
            return MISSING;
        }
        numbers[row].becomeMembers(now.members[f], sort);
        return numbers[row].size;
    }

    // ---- the image

    public int image() {
        kept.takeOver(now);
        isKept = true;
        return Integer.bitCount(now.families());
    }

    public int back() {
        if (!isKept) {
            return STATE;
        }
        now.takeOver(kept);
        return Integer.bitCount(now.families());
    }

    public int count(int what) {
        switch (what) {
            case 0: return now.n;
            case 1: return now.families();
            case 2: return rowsThere();
            case 3: return now.table.notZero();
            default: return BAD;
        }
    }

    // ---- what the calls share

    private static boolean noFamily(int f) {
        return f < 0 || f >= FAMILIES;
    }

    private static boolean noRow(int row) {
        return row < 0 || row >= ROWS;
    }

    private boolean noPoint(int point) {
        return point < 0 || point >= now.n;
    }

    private boolean noSet(int set) {
        return set < 0 || set >= 1 << now.n;
    }

    private static boolean isUnder(int kind, int above) {
        int at = kind;
        for (int steps = 0; steps < KINDS && at >= 0 && at < KINDS; steps++) {
            if (at == above) {
                return true;
            }
            at = ABOVE[at];
        }
        return false;
    }

    private int determinant(int set) {
        scratch.takeOver(now.table);
        return scratch.pivotOn(set);
    }

    private int rowsThere() {
        int bits = 0;
        for (int row = 0; row < ROWS; row++) {
            if (!numbers[row].isMissing()) {
                bits |= 1 << row;
            }
        }
        return bits;
    }

    /** The place of the lowest bit; NONE. */
    private static int leastBit(int bits) {
        return bits == 0 ? NONE : Integer.bitCount((bits & -bits) - 1);
    }

    /** The place of the highest of the bits 0 .. n that sizes can have; NONE. */
    private static int greatestBit(int bits) {
        for (int place = MOST_POINTS; place >= 0; place--) {
            if ((bits >> place & 1) != 0) {
                return place;
            }
        }
        return NONE;
    }

    /** What AN IMAGE keeps: the points, the FAMILIES, the WEIGHTS and THE TABLE. */
    private static final class Ground {
        int n = FIRST_POINTS;
        final long[] members = new long[FAMILIES];
        final int[] kinds = new int[FAMILIES];
        final int[] weights = new int[MOST_POINTS];
        final Table table = new Table();

        Ground() {
            Arrays.fill(kinds, NONE);
        }

        void begin(int points) {
            n = points;
            Arrays.fill(members, 0L);
            Arrays.fill(kinds, NONE);
            Arrays.fill(weights, 0);
            table.wipe();
        }

        void takeOver(Ground other) {
            n = other.n;
            System.arraycopy(other.members, 0, members, 0, FAMILIES);
            System.arraycopy(other.kinds, 0, kinds, 0, FAMILIES);
            System.arraycopy(other.weights, 0, weights, 0, MOST_POINTS);
            table.takeOver(other.table);
        }

        boolean isMissing(int f) {
            return kinds[f] == NONE;
        }

        /** A missing FAMILY (kind NONE) is to have no MEMBERS, as tell() builds on them. */
        int become(int f, long sets, int kind) {
            members[f] = sets;
            kinds[f] = kind;
            return Long.bitCount(sets);
        }

        int families() {
            int bits = 0;
            for (int f = 0; f < FAMILIES; f++) {
                if (!isMissing(f)) {
                    bits |= 1 << f;
                }
            }
            return bits;
        }

        int weightOf(int set) {
            int sum = 0;
            for (int point = 0; point < n; point++) {
                if ((set >> point & 1) != 0) {
                    sum += weights[point];
                }
            }
            return sum;
        }

        /** GREED; NONE: no MEMBERS. */
        int byGreed(long sets) {
            if (sets == 0) {
                return NONE;
            }
            long left = sets;
            int gone = 0;
            int took = 0;
            for (int step = 0; step < n; step++) {
                int point = heaviestBut(gone);
                gone |= 1 << point;
                long with = left & HAVING[point];
                long without = left & ~HAVING[point];
                boolean take = weights[point] >= 0 ? with != 0 : without == 0;
                left = take ? with : without;
                took |= take ? 1 << point : 0;
            }
            return took;
        }

        /** The least point, not gone yet, of greatest WEIGHT without its sign. */
        private int heaviestBut(int gone) {
            int heaviest = 0;
            int most = -1;
            for (int point = 0; point < n; point++) {
                int size = Math.abs(weights[point]);
                if ((gone >> point & 1) == 0 && size > most) {
                    heaviest = point;
                    most = size;
                }
            }
            return heaviest;
        }

        /** BEST; NONE: no MEMBERS. */
        int byLooking(long sets) {
            int found = NONE;
            int most = 0;
            for (int set = 0; set < 1 << n; set++) {
                if (!Family.holds(sets, set)) {
                    continue;
                }
                int sum = weightOf(set);
                if (found == NONE || sum > most) {
                    found = set;
                    most = sum;
                }
            }
            return found;
        }
    }

    /** THE TABLE: numbers modulo 7 that turn their sign with their points' places. */
    private static final class Table {
        private final int[] entries = new int[MOST_POINTS * MOST_POINTS];

        int at(int i, int j) {
            return entries[i * MOST_POINTS + j];
        }

        void write(int i, int j, int v) {
            entries[i * MOST_POINTS + j] = Math.floorMod(v, MODULUS);
            entries[j * MOST_POINTS + i] = Math.floorMod(-v, MODULUS);
        }

        void wipe() {
            Arrays.fill(entries, 0);
        }

        void takeOver(Table other) {
            System.arraycopy(other.entries, 0, entries, 0, entries.length);
        }

        int notZero() {
            int found = 0;
            for (int entry : entries) {
                if (entry != 0) {
                    found++;
                }
            }
            return found;
        }

        /**
         * Pivots on a SET and answers its WHOLE; if that is 0, the table is left half pivoted.
         * Two points at a time are enough: pivots on disjoint SETS after each other are one on both,
         * and each takes its own determinant (the ENTRY's square) out of the WHOLE.
         */
        int pivotOn(int set) {
            int product = 1;
            int left = set;
            for (int i = 0; i < MOST_POINTS; i++) {
                if ((left >> i & 1) == 0) {
                    continue;
                }
                int j = mate(i, left);
                if (j == NONE) {
                    return 0;
                }
                product = product * at(i, j) * at(i, j) % MODULUS;
                pivotOnTwo(i, j);
                left &= ~((1 << i) | (1 << j));
            }
            return product;
        }

        private int mate(int i, int set) {
            for (int j = 0; j < MOST_POINTS; j++) {
                if ((set >> j & 1) != 0 && at(i, j) != 0) {
                    return j;
                }
            }
            return NONE;
        }

        private void pivotOnTwo(int i, int j) {
            int inverse = INVERSE[at(i, j)];
            for (int k = 0; k < MOST_POINTS; k++) {
                for (int l = k + 1; l < MOST_POINTS; l++) {
                    if (k != i && k != j && l != i && l != j) {
                        int change = at(k, i) * at(j, l) - at(k, j) * at(i, l);
                        write(k, l, at(k, l) + change * inverse);
                    }
                }
            }
            for (int k = 0; k < MOST_POINTS; k++) {
                if (k != i && k != j) {
                    int ofI = at(i, k);
                    write(i, k, at(j, k) * inverse);
                    write(j, k, -ofI * inverse);
                }
            }
            write(i, j, -inverse);
        }
    }

    /** What is asked of MEMBERS alone, each SET being a bit of a long. */
    private static final class Family {
        static boolean holds(long members, int set) {
            return ((members >>> set) & 1L) != 0;
        }

        static long ofSizes(int least, int most, int n) {
            long members = 0;
            for (int set = 0; set < 1 << n; set++) {
                int size = Integer.bitCount(set);
                if (size >= least && size <= most) {
                    members |= 1L << set;
                }
            }
            return members;
        }

        private static long twistedByOne(long members, int point) {
            long with = members & HAVING[point];
            long without = members & ~HAVING[point];
            return (with >>> (1 << point)) | (without << (1 << point));
        }

        static long twisted(long members, int set) {
            long result = members;
            for (int point = 0; point < MOST_POINTS; point++) {
                if ((set >> point & 1) != 0) {
                    result = twistedByOne(result, point);
                }
            }
            return result;
        }

        static long leftOut(long members, int point) {
            long without = members & ~HAVING[point];
            return without != 0 ? without : members >>> (1 << point);
        }

        static long drawnTogether(long members, int point) {
            long with = members & HAVING[point];
            return with != 0 ? with >>> (1 << point) : members;
        }

        /** The lowest SET of some; none: how many SETS there can be. */
        private static int first(long members) {
            return Long.bitCount((members & -members) - 1);
        }

        static int atPlace(long members, int k) {
            long left = members;
            for (int i = 0; i < k; i++) {
                left &= left - 1;
            }
            return first(left);
        }

        /** All sizes of MEMBERS, as bits. */
        static int sizes(long members) {
            int bits = 0;
            for (int set = 0; set < MOST_SETS; set++) {
                if (holds(members, set)) {
                    bits |= 1 << Integer.bitCount(set);
                }
            }
            return bits;
        }

        static boolean isEven(int sizes) {
            int evenSizes = 0b1010101;
            return (sizes & evenSizes) == 0 || (sizes & ~evenSizes) == 0;
        }

        static int loops(long members, int n) {
            int bits = 0;
            for (int point = 0; point < n; point++) {
                if ((members & HAVING[point]) == 0) {
                    bits |= 1 << point;
                }
            }
            return bits;
        }

        static int coloops(long members, int n) {
            int bits = 0;
            for (int point = 0; point < n; point++) {
                if ((members & ~HAVING[point]) == 0) {
                    bits |= 1 << point;
                }
            }
            return bits;
        }

        /** All SETS that are like one SET at some points. */
        static long likeAt(int set, int points) {
            long sets = -1L;
            for (int point = 0; point < MOST_POINTS; point++) {
                if ((points >> point & 1) != 0) {
                    sets &= (set >> point & 1) != 0 ? HAVING[point] : ~HAVING[point];
                }
            }
            return sets;
        }

        /** All points v by which the DIFFERENCE of x and u, v is a MEMBER, as bits. */
        static int partners(long members, int x, int u, int n) {
            int bits = 0;
            for (int v = 0; v < n; v++) {
                if (holds(members, x ^ ((1 << u) | (1 << v)))) {
                    bits |= 1 << v;
                }
            }
            return bits;
        }

        /** MEMBERS y for which x, y and u have no PARTNER: unlike x at u, like it at all that could be one. */
        private static long unmet(long members, int x, int u, int n) {
            int could = partners(members, x, u, n);
            if ((could >> u & 1) != 0) {
                return 0L;
            }
            return members & likeAt(x ^ (1 << u), could | (1 << u));
        }

        private static long unmetByAny(long members, int x, int n) {
            long sets = 0;
            for (int u = 0; u < n; u++) {
                sets |= unmet(members, x, u, n);
            }
            return sets;
        }

        /** The first MEMBER x from which some y, u has no PARTNER; NONE. */
        static int firstStuck(long members, int n) {
            for (int x = 0; x < 1 << n; x++) {
                if (holds(members, x) && unmetByAny(members, x, n) != 0) {
                    return x;
                }
            }
            return NONE;
        }

        static int firstUnmet(long members, int x, int n) {
            return first(unmetByAny(members, x, n));
        }

        static int firstLonePoint(long members, int x, int y, int n) {
            for (int u = 0; u < n; u++) {
                if (holds(unmet(members, x, u, n), y)) {
                    return u;
                }
            }
            return NONE;
        }

        static boolean isExchanging(long members, int n) {
            return members != 0 && firstStuck(members, n) == NONE;
        }

        /** APART: whole rings of MEMBERS at a time, each an EXCHANGE further out. */
        static int exchangesBetween(long members, int x, int y, int n) {
            long seen = 1L << x;
            for (int far = 0; far < MOST_SETS; far++) {
                if (holds(seen, y)) {
                    return far;
                }
                seen |= members & changedByTwo(seen, n);
            }
            return NONE;
        }

        /** All SETS whose DIFFERENCE with one of some has at most two points. */
        private static long changedByTwo(long sets, int n) {
            long once = changedByOne(sets, n);
            return changedByOne(once, n);
        }

        /** All SETS whose DIFFERENCE with one of some has at most one point. */
        private static long changedByOne(long sets, int n) {
            long result = sets;
            for (int point = 0; point < n; point++) {
                result |= twistedByOne(sets, point);
            }
            return result;
        }

        static int leastTwist(long first, long second, int n) {
            for (int set = 0; set < 1 << n; set++) {
                if (twisted(first, set) == second) {
                    return set;
                }
            }
            return NONE;
        }

        /** Whether points from one on can be renamed among themselves so that the first becomes the second. */
        private static boolean areAlike(long first, long second, int from, int n) {
            if (first == second) {
                return true;
            }
            if (from >= n) {
                return false;
            }
            for (int point = from; point < n; point++) {
                if (areAlike(swapped(first, from, point), second, from + 1, n)) {
                    return true;
                }
            }
            return false;
        }

        /** Points i and j change names; i is not above j. */
        private static long swapped(long members, int i, int j) {
            if (i == j) {
                return members;
            }
            long onlyI = HAVING[i] & ~HAVING[j];
            long onlyJ = HAVING[j] & ~HAVING[i];
            int up = (1 << j) - (1 << i);
            long rest = members & ~(onlyI | onlyJ);
            return rest | ((members & onlyI) << up) | ((members & onlyJ) >>> up);
        }
    }

    /** JUMPS of two FAMILIES. A row is two SETS: SOME, the points of 1 or 2, and BOTH, those of 2. */
    private static final class Sums {
        private int n = FIRST_POINTS;
        /** For each SOME the SETS that are BOTH with it, as bits. */
        private final long[] boths = new long[MOST_SETS];
        /** For each SET its points as digits 1 of a number to the base of 3. */
        private final int[] ternary = new int[MOST_SETS];

        Sums() {
            for (int set = 0; set < MOST_SETS; set++) {
                for (int point = 0; point < MOST_POINTS; point++) {
                    if ((set >> point & 1) != 0) {
                        ternary[set] += rowsOver(point);
                    }
                }
            }
        }

        /** 3 to the n. */
        static int rowsOver(int n) {
            int power = 1;
            for (int point = 0; point < n; point++) {
                power *= 3;
            }
            return power;
        }

        void fill(long first, long second, int points) {
            n = points;
            Arrays.fill(boths, 0L);
            for (int x = 0; x < 1 << n; x++) {
                if (Family.holds(first, x)) {
                    addAll(x, second);
                }
            }
        }

        private void addAll(int x, long second) {
            for (int y = 0; y < 1 << n; y++) {
                if (Family.holds(second, y)) {
                    boths[x | y] |= 1L << (x & y);
                }
            }
        }

        private boolean holdsRow(int some, int both) {
            return Family.holds(boths[some], both);
        }

        boolean holdsNumber(int row) {
            int some = 0;
            int both = 0;
            int left = row;
            for (int point = 0; point < n; point++) {
                int digit = left % 3;
                left /= 3;
                some |= digit >= 1 ? 1 << point : 0;
                both |= digit == 2 ? 1 << point : 0;
            }
            return holdsRow(some, both);
        }

        int howMany() {
            int sum = 0;
            for (long sets : boths) {
                sum += Long.bitCount(sets);
            }
            return sum;
        }

        int least() {
            int found = NONE;
            for (int some = 0; some < 1 << n; some++) {
                for (int both = 0; both <= some; both++) {
                    int row = ternary[some] + ternary[both];
                    if (holdsRow(some, both) && (found == NONE || row < found)) {
                        found = row;
                    }
                }
            }
            return found;
        }

        int greatest() {
            int found = NONE;
            for (int some = 0; some < 1 << n; some++) {
                for (int both = 0; both <= some; both++) {
                    if (holdsRow(some, both)) {
                        found = Math.max(found, ternary[some] + ternary[both]);
                    }
                }
            }
            return found;
        }

        boolean areSprung() {
            boolean any = false;
            for (int some = 0; some < 1 << n; some++) {
                any = any || boths[some] != 0;
                for (int both = 0; both <= some; both++) {
                    if ((both & ~some) == 0 && !holdsRow(some, both) && leavesOne(some, both)) {
                        return false;
                    }
                }
            }
            return any;
        }

        /**
         * Whether a STEP from a row a leads to this row, which is none of JUMPS, and no STEP goes on
         * from it toward some row b. Which a it was need not be known: toward each b for which the
         * STEP from a to here was not one, there is the STEP from here to a.
         */
        private boolean leavesOne(int some, int both) {
            int ups = 0;
            int downs = 0;
            for (int point = 0; point < n; point++) {
                ups |= stepUpMakesOne(some, both, point) ? 1 << point : 0;
                downs |= stepDownMakesOne(some, both, point) ? 1 << point : 0;
            }
            return (ups | downs) != 0 && holdsOneWithout(some, both, ups, downs);
        }

        private boolean stepUpMakesOne(int some, int both, int point) {
            int bit = 1 << point;
            if ((some & bit) == 0) {
                return holdsRow(some | bit, both);
            }
            return (both & bit) == 0 && holdsRow(some, both | bit);
        }

        private boolean stepDownMakesOne(int some, int both, int point) {
            int bit = 1 << point;
            if ((both & bit) != 0) {
                return holdsRow(some, both & ~bit);
            }
            return (some & bit) != 0 && holdsRow(some & ~bit, both);
        }

        /** Whether one of JUMPS is nowhere above a row at the points ups, nowhere below it at downs. */
        private boolean holdsOneWithout(int some, int both, int ups, int downs) {
            int likeSome = (ups & ~some) | (downs & some);
            int likeBoth = (ups & ~both) | (downs & both);
            long fitting = Family.likeAt(both, likeBoth);
            for (int other = 0; other < 1 << n; other++) {
                if (((other ^ some) & likeSome) == 0 && (boths[other] & fitting) != 0) {
                    return true;
                }
            }
            return false;
        }
    }

    /** A ROW; its sort is NONE while it is missing. */
    private static final class Numbers {
        int sort = NONE;
        int size = 0;
        final long[] values = new long[MOST_NUMBERS];

        void begin(int newSort, int newSize) {
            sort = newSort;
            size = newSize;
            Arrays.fill(values, 0L);
        }

        boolean isMissing() {
            return sort == NONE;
        }

        boolean hasPlace(int i) {
            return i >= 0 && i < size;
        }

        /** Whether n places from i on are all inside; the end of the row is where none begin. */
        boolean hasStretch(int i, int n) {
            return i >= 0 && i <= size && n >= 0 && n <= size - i;
        }

        void write(int i, long v) {
            values[i] = lowestBits(v);
        }

        private long lowestBits(long v) {
            switch (sort) {
                case BYTES: return (byte) v;
                case SHORTS: return (short) v;
                case INTS: return (int) v;
                default: return v;
            }
        }

        /** The SETS among the numbers, as MEMBERS. */
        long asSets(int n) {
            long members = 0;
            for (int i = 0; i < size; i++) {
                if (values[i] >= 0 && values[i] < 1L << n) {
                    members |= 1L << (int) values[i];
                }
            }
            return members;
        }

        void becomeMembers(long members, int newSort) {
            begin(newSort, Long.bitCount(members));
            int i = 0;
            for (int set = 0; set < MOST_SETS && i < size; set++) {
                if (Family.holds(members, set)) {
                    write(i, set);
                    i++;
                }
            }
        }
    }
}
