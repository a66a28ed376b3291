import java.util.Arrays;

/** Chips on a network of points and lines: promises 1 to 34 of the document. */
public final class FiredChips {
    public static final int NONE = -1, BAD = -2, NO = -3, FULL = -4;

    private static final int FINE = 0;
    private static final int SINK = 0;
    private static final int FEWEST_POINTS = 2, MOST_POINTS = 5, POINTS_AT_FIRST = 3;
    private static final int MOST_LINES = 3;
    private static final int MOST_CHIPS = 999, MOST_CHIPS_OF_A_CALL = 99;
    private static final int MOST_SEED = 999999;
    private static final int MOST_DEGREE_RANKED = 12;
    private static final int KEPT_ROWS = 3, MOST_STATES = 5;
    private static final int MOST_BYTES = 120, MOST_FIGURES = 3;
    private static final int MANY = 1000000;

    private final int[] refusals = new int[3];
    private final Acts acts = new Acts();
    private final Position now = acts.now;
    private final Grounded grounded = acts.grounded;
    private final History history = new History();
    private final RankSearch rankSearch = new RankSearch();
    private final Text text = new Text();
    private final int[] row = new int[MOST_POINTS];

    public FiredChips() {
    }

    // ---- the network

    public int points(int n) {
        int before = now.count;
        history.hold(now);
        return ended(acts.startAnew(n), before);
    }

    public int lines(int a, int b, int k) {
        int before = now.linesBetween(a, b);
        history.hold(now);
        return ended(acts.layLines(a, b, k), before);
    }

    public int draws(int seed) {
        if (seed < 0 || seed > MOST_SEED) {
            return refuse(BAD);
        }
        history.hold(now);
        now.draw(seed);
        return ended(FINE, now.lineCount());
    }

    public int net(int a, int b) {
        if (!now.hasPoint(a) || !now.hasPoint(b)) {
            return refuse(BAD);
        }
        return a == b ? now.valence(a) : now.linesBetween(a, b);
    }

    public int joined() {
        return bit(now.isJoined());
    }

    // ---- chips

    public int sets(int p, int v) {
        if (!now.hasPoint(p) || Math.abs((long) v) > MOST_CHIPS_OF_A_CALL) {
            return refuse(BAD);
        }
        int before = now.chips[p];
        history.hold(now);
        now.chips[p] = v;
        return ended(FINE, before);
    }

    public int adds(int p, int v) {
        history.hold(now);
        int outcome = acts.addChips(p, v);
        return ended(outcome, now.hasPoint(p) ? now.chips[p] : NONE);
    }

    public int fires(int p) {
        history.hold(now);
        return ended(acts.firePoint(p, 1), 1);
    }

    public int borrows(int p) {
        history.hold(now);
        return ended(acts.firePoint(p, -1), 1);
    }

    public int together(int set) {
        history.hold(now);
        int outcome = acts.fireSet(set, 1);
        return ended(outcome, now.chipsUnlike(history.held()));
    }

    public int settles() {
        history.hold(now);
        int outcome = acts.settleHeap();
        return ended(outcome, now.firedInAll());
    }

    public int script(int p) {
        if (!now.hasPoint(p)) {
            return refuse(BAD);
        }
        return now.fired[p];
    }

    public int of(int p, int what) {
        if (!now.hasPoint(p) || what < 0 || what > 2) {
            return refuse(BAD);
        }
        if (what == 0) {
            return now.chips[p] + 1000;
        }
        return what == 1 ? now.valence(p) : bit(now.isFullAt(p));
    }

    public int stable() {
        return bit(now.isStableHeap());
    }

    public int burns(int what) {
        if (what < 0 || what > 2) {
            return refuse(BAD);
        }
        if (!now.isStableHeap()) {
            return refuse(NO);
        }
        int burnt = 1 << SINK;
        int waves = 0;
        for (int turn = 0; turn < now.count; turn++) {
            int wave = now.nextToBurn(burnt);
            if (wave != 0) {
                waves++;
            }
            burnt |= wave;
        }
        if (what == 0) {
            return burnt;
        }
        return what == 1 ? waves : bit(burnt == now.allPoints());
    }

    // ---- the group

    public int trees() {
        grounded.take(now, SINK);
        return (int) grounded.treeCount();
    }

    public int parts(int i) {
        if (i < NONE) {
            return refuse(BAD);
        }
        if (!now.isJoined()) {
            return refuse(NO);
        }
        grounded.take(now, SINK);
        int found = 0;
        long before = 1;
        for (int size = 1; size < now.count; size++) {
            long divisor = grounded.commonDivisor(size);
            long part = before > 0 ? divisor / before : 1;
            before = divisor;
            if (part > 1) {
                if (found == i) {
                    return (int) part;
                }
                found++;
            }
        }
        return i == NONE ? found : NONE;
    }

    public int identity(int p) {
        if (!now.hasPoint(p)) {
            return refuse(BAD);
        }
        if (!now.isJoined()) {
            return refuse(NO);
        }
        Arrays.fill(row, 0);
        grounded.takeWhole(now, SINK);
        grounded.makeRecurrent(row);
        return p == SINK ? 0 : row[p];
    }

    public int recurrent(int p) {
        if (!now.hasPoint(p)) {
            return refuse(BAD);
        }
        if (!now.isJoined() || !now.isHeap()) {
            return refuse(NO);
        }
        copyRow(now.chips, row);
        grounded.takeWhole(now, SINK);
        grounded.makeRecurrent(row);
        return p == SINK ? 0 : row[p];
    }

    public int order() {
        if (!now.isJoined() || !now.isHeap()) {
            return refuse(NO);
        }
        grounded.takeWhole(now, SINK);
        return (int) grounded.leastMultiple(now.chips);
    }

    public int heaps(int what) {
        if (what < 0 || what > 1) {
            return refuse(BAD);
        }
        if (!now.isJoined()) {
            return refuse(NO);
        }
        // There are as many RECURRENT HEAPS as TREES.
        return what == 0 ? now.stableHeapCount() : trees();
    }

    // ---- all points

    public int rank(int what) {
        if (what < 0 || what > 3) {
            return refuse(BAD);
        }
        if (what == 0) {
            return degreeOf(now.chips, now.count) + 10000;
        }
        if (what == 1) {
            return now.genus() + 10;
        }
        if (what == 2) {
            copyRow(now.chips, row);
        } else {
            now.writeDual(row);
        }
        if (!now.isJoined() || degreeOf(row, now.count) > MOST_DEGREE_RANKED) {
            return refuse(NO);
        }
        grounded.takeWhole(now, SINK);
        return rankSearch.rankOf(grounded, row, now.genus()) + 1;
    }

    public int reduced(int q, int p) {
        if (!now.hasPoint(q) || !now.hasPoint(p)) {
            return refuse(BAD);
        }
        if (!now.isJoined()) {
            return refuse(NO);
        }
        reduceChipsAt(q);
        return row[p] + 10000;
    }

    public int won() {
        if (!now.isJoined()) {
            return refuse(NO);
        }
        reduceChipsAt(SINK);
        return bit(row[SINK] >= 0);
    }

    public int keeps(int s) {
        if (!isKeptNumber(s)) {
            return refuse(BAD);
        }
        history.hold(now);
        now.keepChips(s);
        return ended(FINE, degreeOf(now.chips, now.count) + 10000);
    }

    public int equal(int s) {
        if (!isKeptNumber(s)) {
            return refuse(BAD);
        }
        if (!canCompareWith(s)) {
            return refuse(NO);
        }
        return bit(findWay(s));
    }

    public int way(int s, int p) {
        if (!isKeptNumber(s) || !now.hasPoint(p)) {
            return refuse(BAD);
        }
        if (!canCompareWith(s)) {
            return refuse(NO);
        }
        return findWay(s) ? grounded.wayOf(p) + 100000 : NONE;
    }

    // ---- texts

    public int type(int c) {
        if (c < 0 || c > 127) {
            return refuse(BAD);
        }
        if (text.length >= MOST_BYTES) {
            return refuse(FULL);
        }
        text.append(c);
        return text.length;
    }

    public int clear() {
        int before = text.length;
        text.length = 0;
        return before;
    }

    public int reads() {
        int fault = text.parse(now.count);
        if (fault != NONE) {
            return -10 - fault;
        }
        history.hold(now);
        int stopping = doOrders();
        if (stopping != NONE) {
            now.copyFrom(history.held());
            return -1000 - stopping;
        }
        history.keepHeld();
        return text.orderCount;
    }

    public int back() {
        if (history.size < 1) {
            return refuse(NO);
        }
        history.takeNewest(now);
        return history.size;
    }

    public int told(int what) {
        switch (what) {
            case 0:
            case 1:
            case 2:
                return refusals[what];
            case 3:
                return text.length;
            case 4:
                return now.count;
            case 5:
                return now.keptBits();
            case 6:
                return history.size;
            default:
                return refuse(BAD);
        }
    }

    public long digest() {
        long h = 2293;
        for (int what = 0; what <= 6; what++) {
            h = 31 * h + told(what);
        }
        for (int b = 1; b < now.count; b++) {
            for (int a = 0; a < b; a++) {
                h = 31 * h + now.linesBetween(a, b);
            }
        }
        for (int p = 0; p < now.count; p++) {
            for (int what = 0; what <= 2; what++) {
                h = 31 * h + of(p, what);
            }
            h = 31 * h + script(p);
        }
        h = 31 * h + joined();
        h = 31 * h + stable();
        h = 31 * h + trees();
        h = 31 * h + rank(0);
        return 31 * h + rank(1);
    }

    // ---- helpers of the calls

    private int refuse(int why) {
        int place = BAD - why;
        if (place >= 0 && place < refusals.length) {
            refusals[place]++;
        }
        return why;
    }

    /** Ends a call that leaves a STATE: the held one stays only if nothing was refused. */
    private int ended(int outcome, int answer) {
        if (outcome != FINE) {
            return refuse(outcome);
        }
        history.keepHeld();
        return answer;
    }

    private void reduceChipsAt(int q) {
        copyRow(now.chips, row);
        grounded.takeWhole(now, q);
        grounded.reduce(row);
    }

    private boolean canCompareWith(int s) {
        return now.isJoined() && now.keptCount[s] == now.count;
    }

    private boolean findWay(int s) {
        grounded.takeWhole(now, SINK);
        return grounded.findWay(now.chips, now.kept[s]);
    }

    /** The number of the ORDER that would be refused, or NONE when all were done. */
    private int doOrders() {
        text.rewind();
        for (int number = 0; number < text.orderCount; number++) {
            if (doOrder() != FINE) {
                return number;
            }
        }
        return NONE;
    }

    private int doOrder() {
        switch (text.nextItem()) {
            case 'n':
                return acts.startAnew(text.nextItem());
            case 'l':
                return acts.layLines(text.nextItem(), text.nextItem(), text.nextItem());
            case 'f':
                return acts.firePoint(text.nextItem(), 1);
            case 'b':
                return acts.firePoint(text.nextItem(), -1);
            case 'z':
                return acts.settleHeap();
            case 'a':
                return acts.addChips(text.nextItem(), text.nextItem());
            case 'c':
                for (int p = 0; p < now.count; p++) {
                    now.chips[p] = text.nextItem();
                }
                return FINE;
            default:
                return BAD;
        }
    }

    private static boolean isKeptNumber(int s) {
        return s >= 0 && s < KEPT_ROWS;
    }

    private static int bit(boolean so) {
        return so ? 1 : 0;
    }

    private static void copyRow(int[] from, int[] to) {
        System.arraycopy(from, 0, to, 0, MOST_POINTS);
    }

    private static int degreeOf(int[] chips, int count) {
        int sum = 0;
        for (int p = 0; p < count; p++) {
            sum += chips[p];
        }
        return sum;
    }

    /** All that a STATE holds: THE NETWORK, CHIPS, KEPT rows, SCRIPT. */
    private static final class Position {
        private int count = POINTS_AT_FIRST;
        private final int[][] between = new int[MOST_POINTS][MOST_POINTS];
        private final int[] chips = new int[MOST_POINTS];
        private final int[] fired = new int[MOST_POINTS];
        // 0 where no row is KEPT
        private final int[] keptCount = new int[KEPT_ROWS];
        private final int[][] kept = new int[KEPT_ROWS][MOST_POINTS];

        void copyFrom(Position other) {
            count = other.count;
            for (int a = 0; a < MOST_POINTS; a++) {
                copyRow(other.between[a], between[a]);
            }
            copyRow(other.chips, chips);
            copyRow(other.fired, fired);
            for (int s = 0; s < KEPT_ROWS; s++) {
                keptCount[s] = other.keptCount[s];
                copyRow(other.kept[s], kept[s]);
            }
        }

        void empty(int n) {
            count = n;
            for (int a = 0; a < MOST_POINTS; a++) {
                Arrays.fill(between[a], 0);
            }
            Arrays.fill(chips, 0);
            Arrays.fill(fired, 0);
        }

        void draw(int seed) {
            long x = seed;
            for (int b = 1; b < count; b++) {
                for (int a = 0; a < b; a++) {
                    x = drawnAfter(x);
                    putLines(a, b, (int) (x / 65536 % 3));
                }
            }
            for (int p = 0; p < count; p++) {
                x = drawnAfter(x);
                chips[p] = (int) (x / 65536 % 7);
            }
        }

        private static long drawnAfter(long x) {
            return (x * 1103515245L + 12345L) % 2147483648L;
        }

        void putLines(int a, int b, int k) {
            between[a][b] = k;
            between[b][a] = k;
        }

        void keepChips(int s) {
            keptCount[s] = count;
            copyRow(chips, kept[s]);
        }

        int keptBits() {
            int bits = 0;
            for (int s = 0; s < KEPT_ROWS; s++) {
                if (keptCount[s] > 0) {
                    bits |= 1 << s;
                }
            }
            return bits;
        }

        boolean hasPoint(int p) {
            return p >= 0 && p < count;
        }

        int allPoints() {
            return (1 << count) - 1;
        }

        int linesBetween(int a, int b) {
            return hasPoint(a) && hasPoint(b) ? between[a][b] : 0;
        }

        int linesInto(int set, int p) {
            int sum = 0;
            for (int other = 0; other < count; other++) {
                if ((set >> other & 1) == 1) {
                    sum += between[p][other];
                }
            }
            return sum;
        }

        int valence(int p) {
            return linesInto(allPoints(), p);
        }

        int lineCount() {
            int ends = 0;
            for (int p = 0; p < count; p++) {
                ends += valence(p);
            }
            return ends / 2;
        }

        int genus() {
            return lineCount() - count + 1;
        }

        boolean isJoined() {
            int reached = 1 << SINK;
            for (int turn = 1; turn < count; turn++) {
                for (int p = 0; p < count; p++) {
                    if (linesInto(reached, p) > 0) {
                        reached |= 1 << p;
                    }
                }
            }
            return reached == allPoints();
        }

        boolean isHeap() {
            for (int p = 1; p < count; p++) {
                if (chips[p] < 0) {
                    return false;
                }
            }
            return true;
        }

        boolean isFullAt(int p) {
            int needed = valence(p);
            return p != SINK && needed > 0 && chips[p] >= needed;
        }

        boolean isStableHeap() {
            for (int p = 1; p < count; p++) {
                if (isFullAt(p)) {
                    return false;
                }
            }
            return isHeap();
        }

        int nextToBurn(int burnt) {
            int wave = 0;
            for (int p = 0; p < count; p++) {
                boolean burntAlready = (burnt >> p & 1) == 1;
                if (!burntAlready && chips[p] + linesInto(burnt, p) >= valence(p)) {
                    wave |= 1 << p;
                }
            }
            return wave;
        }

        int stableHeapCount() {
            int product = 1;
            for (int p = 1; p < count; p++) {
                product *= valence(p);
            }
            return product;
        }

        int firedInAll() {
            return degreeOf(fired, count);
        }

        int chipsUnlike(Position other) {
            int unlike = 0;
            for (int p = 0; p < count; p++) {
                if (chips[p] != other.chips[p]) {
                    unlike++;
                }
            }
            return unlike;
        }

        void writeDual(int[] dual) {
            for (int p = 0; p < count; p++) {
                dual[p] = valence(p) - 2 - chips[p];
            }
        }
    }

    /** The STATES to go back to, and one held until it is known whether its call is refused. */
    private static final class History {
        private final Position[] states = new Position[MOST_STATES + 1];
        private int newest = 0;
        private int size = 0;

        History() {
            for (int i = 0; i < states.length; i++) {
                states[i] = new Position();
            }
        }

        Position held() {
            return states[(newest + 1) % (MOST_STATES + 1)];
        }

        void hold(Position position) {
            held().copyFrom(position);
        }

        void keepHeld() {
            newest = (newest + 1) % (MOST_STATES + 1);
            size = Math.min(size + 1, MOST_STATES);
        }

        void takeNewest(Position into) {
            into.copyFrom(states[newest]);
            newest = (newest + MOST_STATES) % (MOST_STATES + 1);
            size = Math.max(size - 1, 0);
        }
    }

    /** What both calls and ORDERS do: FINE, or BAD or NO with nothing changed. */
    private static final class Acts {
        private final Position now = new Position();
        private final Grounded grounded = new Grounded();
        private final int[] planned = new int[MOST_POINTS];
        private final int[] plannedFired = new int[MOST_POINTS];

        int startAnew(int n) {
            if (n < FEWEST_POINTS || n > MOST_POINTS) {
                return BAD;
            }
            now.empty(n);
            return FINE;
        }

        int layLines(int a, int b, int k) {
            if (!now.hasPoint(a) || !now.hasPoint(b) || a == b || k < 0 || k > MOST_LINES) {
                return BAD;
            }
            now.putLines(a, b, k);
            return FINE;
        }

        int addChips(int p, int v) {
            if (!now.hasPoint(p) || Math.abs((long) v) > MOST_CHIPS_OF_A_CALL) {
                return BAD;
            }
            copyRow(now.chips, planned);
            planned[p] += v;
            return takePlanned();
        }

        int firePoint(int p, int times) {
            return now.hasPoint(p) ? fireSet(1 << p, times) : BAD;
        }

        int fireSet(int set, int times) {
            if (set < 1 || set > now.allPoints()) {
                return BAD;
            }
            copyRow(now.chips, planned);
            grounded.take(now, SINK);
            for (int p = 0; p < now.count; p++) {
                if ((set >> p & 1) == 1) {
                    grounded.fire(planned, p, times);
                }
            }
            return takePlanned();
        }

        int settleHeap() {
            if (!now.isJoined() || !now.isHeap()) {
                return NO;
            }
            copyRow(now.chips, planned);
            Arrays.fill(plannedFired, 0);
            grounded.take(now, SINK);
            grounded.settle(planned, plannedFired);
            int outcome = takePlanned();
            if (outcome == FINE) {
                copyRow(plannedFired, now.fired);
            }
            return outcome;
        }

        private int takePlanned() {
            for (int p = 0; p < now.count; p++) {
                if (Math.abs(planned[p]) > MOST_CHIPS) {
                    return NO;
                }
            }
            copyRow(planned, now.chips);
            return FINE;
        }
    }

    /**
     * THE NETWORK with one POINT taken as sink: firing by its matrix (VALENCES on the diagonal,
     * LINES below 0 beside it), and what follows from that matrix without the sink.
     */
    private static final class Grounded {
        private final int[][] matrix = new int[MOST_POINTS][MOST_POINTS];
        private final long[][] cofactors = new long[MOST_POINTS][MOST_POINTS];
        private final long[] solved = new long[MOST_POINTS];
        private final int[] heap = new int[MOST_POINTS];
        private final int[] neutral = new int[MOST_POINTS];
        private final int[] ignored = new int[MOST_POINTS];
        private int count = FEWEST_POINTS;
        private int sink = SINK;
        private long determinant = 0;

        /** Enough for firing, settling and counting. */
        void take(Position position, int q) {
            count = position.count;
            sink = q;
            for (int a = 0; a < count; a++) {
                for (int b = 0; b < count; b++) {
                    matrix[a][b] = a == b ? position.valence(a) : -position.between[a][b];
                }
            }
        }

        /** Enough for everything else, too; the network has to be JOINED. */
        void takeWhole(Position position, int q) {
            take(position, q);
            determinant = treeCount();
            int others = othersThanSink();
            for (int a = 0; a < count; a++) {
                for (int b = 0; b < count; b++) {
                    if (a != sink && b != sink) {
                        long rest = minor(others & ~(1 << a), others & ~(1 << b), 0);
                        cofactors[a][b] = (placeOf(a) + placeOf(b)) % 2 == 0 ? rest : -rest;
                    }
                }
            }
            findNeutral();
        }

        private int othersThanSink() {
            return ((1 << count) - 1) & ~(1 << sink);
        }

        private int placeOf(int p) {
            return p > sink ? p - 1 : p;
        }

        long treeCount() {
            int others = othersThanSink();
            return minor(others, others, 0);
        }

        /** The determinant of some rows (those from 'from' on) and as many columns, both sets of points. */
        private long minor(int rows, int columns, int from) {
            if (from >= count) {
                return 1;
            }
            if ((rows >> from & 1) == 0) {
                return minor(rows, columns, from + 1);
            }
            long sum = 0;
            int sign = 1;
            for (int column = 0; column < count; column++) {
                if ((columns >> column & 1) == 1) {
                    int entry = sign * matrix[from][column];
                    if (entry != 0) {
                        sum += entry * minor(rows, columns & ~(1 << column), from + 1);
                    }
                    sign = -sign;
                }
            }
            return sum;
        }

        /** The greatest common divisor of all determinants of so many rows and columns. */
        long commonDivisor(int size) {
            long divisor = 0;
            int others = othersThanSink();
            for (int rows = 0; rows <= others; rows++) {
                if ((rows & ~others) != 0 || Integer.bitCount(rows) != size) {
                    continue;
                }
                for (int columns = 0; columns <= others; columns++) {
                    if ((columns & ~others) == 0 && Integer.bitCount(columns) == size) {
                        divisor = greatestDivisor(divisor, minor(rows, columns, 0));
                    }
                }
            }
            return divisor;
        }

        private static long greatestDivisor(long a, long b) {
            long high = Math.abs(a);
            long low = Math.abs(b);
            for (int turn = 0; turn < MANY && low != 0; turn++) {
                long rest = high % low;
                high = low;
                low = rest;
            }
            return high;
        }

        void fire(int[] chips, int p, int times) {
            for (int other = 0; other < count; other++) {
                chips[other] -= times * matrix[p][other];
            }
        }

        /** A FULL point FIRES as often as it can at once, which comes to the same and is sooner done. */
        void settle(int[] chips, int[] fired) {
            boolean moved = true;
            for (int turn = 0; turn < MANY && moved; turn++) {
                moved = false;
                for (int p = 0; p < count; p++) {
                    int needed = matrix[p][p];
                    if (p != sink && needed > 0 && chips[p] >= needed) {
                        int times = chips[p] / needed;
                        fire(chips, p, times);
                        fired[p] += times;
                        moved = true;
                    }
                }
            }
        }

        /**
         * A row EQUAL to none at all, with more CHIPS than VALENCE on each point but the sink: 2 VALENCE
         * on each, less what that settles to. Added to a heap, it makes sure that a RECURRENT one comes.
         */
        private void findNeutral() {
            for (int p = 0; p < count; p++) {
                heap[p] = 2 * matrix[p][p];
            }
            settle(heap, ignored);
            for (int p = 0; p < count; p++) {
                neutral[p] = 2 * matrix[p][p] - heap[p];
            }
        }

        /** Solves matrix times x = chips without the sink; solved holds x times the determinant. */
        private void solve(int[] chips) {
            for (int a = 0; a < count; a++) {
                solved[a] = 0;
                for (int b = 0; b < count; b++) {
                    if (a != sink && b != sink) {
                        solved[a] += cofactors[a][b] * chips[b];
                    }
                }
            }
        }

        /** The row, debts too, becomes the EQUAL one that is a RECURRENT heap; the sink has the rest of the degree. */
        void makeRecurrent(int[] chips) {
            if (determinant <= 0) {
                return;
            }
            // Firing by the floor of the solution leaves each point between -VALENCE and VALENCE.
            solve(chips);
            for (int p = 0; p < count; p++) {
                fire(chips, p, (int) Math.floorDiv(solved[p], determinant));
            }
            // Once for what may be below 0, once more to have VALENCE or more: RECURRENT for sure when settled.
            for (int p = 0; p < count; p++) {
                chips[p] += 2 * neutral[p];
            }
            settle(chips, ignored);
        }

        /** Turns a row into VALENCE less 1 less its chips: REDUCED rows and RECURRENT heaps change places. */
        private void complement(int[] from, int[] to) {
            for (int p = 0; p < count; p++) {
                to[p] = matrix[p][p] - 1 - from[p];
            }
        }

        void makeRecurrentComplement(int[] chips, int[] to) {
            complement(chips, to);
            makeRecurrent(to);
        }

        int sinkChipsOfComplement(int[] chips) {
            return matrix[sink][sink] - 1 - chips[sink];
        }

        void reduce(int[] chips) {
            makeRecurrentComplement(chips, heap);
            complement(heap, chips);
        }

        /** The least k, 1 or more, so that the heap k times together is EQUAL to none at all. */
        long leastMultiple(int[] chips) {
            solve(chips);
            long divisor = determinant;
            for (int p = 0; p < count; p++) {
                divisor = greatestDivisor(divisor, solved[p]);
            }
            return divisor > 0 ? determinant / divisor : 1;
        }

        /** Whether both rows are EQUAL; if so, wayOf tells how often each point fires. */
        boolean findWay(int[] from, int[] to) {
            for (int p = 0; p < count; p++) {
                heap[p] = from[p] - to[p];
            }
            if (determinant <= 0 || degreeOf(heap, count) != 0) {
                return false;
            }
            solve(heap);
            for (int p = 0; p < count; p++) {
                if (solved[p] % determinant != 0) {
                    return false;
                }
            }
            return true;
        }

        int wayOf(int p) {
            return determinant > 0 ? (int) (solved[p] / determinant) : 0;
        }
    }

    /**
     * RANK by search. A row REDUCED at the sink with a chips there is WON if a is 0 or more, and chips
     * taken off the sink alone lessen just a. So RANK is the least of (chips taken off other points)
     * and (a of what is left, or -1 if that is below 0) together.
     */
    private static final class RankSearch {
        // one heap for each number of chips taken off: the RECURRENT complement of what is left
        private final int[][] rests = new int[MOST_DEGREE_RANKED + 2][MOST_POINTS];
        private final int[] ignored = new int[MOST_POINTS];
        private int least = NONE;

        int rankOf(Grounded grounded, int[] chips, int genus) {
            int degree = degreeOf(chips, grounded.count);
            if (degree < 0) {
                return -1;
            }
            // By the theorem of Riemann and Roch: the DUAL's degree is below 0 then, its RANK -1.
            if (degree > 2 * genus - 2) {
                return degree - genus;
            }
            grounded.makeRecurrentComplement(chips, rests[0]);
            least = Math.max(grounded.sinkChipsOfComplement(rests[0]), -1);
            takeOff(grounded, 0, 1);
            return least;
        }

        /** Takes one chip more off each point from 'from' on, until what comes can't be below 'least'. */
        private void takeOff(Grounded grounded, int taken, int from) {
            for (int p = from; p < grounded.count; p++) {
                if (taken >= least || taken + 1 >= rests.length) {
                    return;
                }
                int[] rest = rests[taken + 1];
                copyRow(rests[taken], rest);
                rest[p]++;
                grounded.settle(rest, ignored);
                int left = grounded.sinkChipsOfComplement(rest);
                least = Math.min(least, taken + 1 + Math.max(left, -1));
                takeOff(grounded, taken + 1, p);
            }
        }
    }

    /** THE TEXT, and the ORDERS that it tells: each its letter and its numbers, one item each. */
    private static final class Text {
        private final int[] bytes = new int[MOST_BYTES];
        private int length = 0;
        // an item takes a byte of the text or more
        private final int[] items = new int[MOST_BYTES];
        private int itemCount = 0;
        private int itemsDone = 0;
        private int orderCount = 0;
        private int at = 0;
        private int fault = NONE;
        private int pointsThen = POINTS_AT_FIRST;

        void append(int c) {
            if (length < MOST_BYTES) {
                bytes[length] = c;
                length++;
            }
        }

        /** Reads all ORDERS into items: NONE, or the FAULT. */
        int parse(int points) {
            pointsThen = points;
            itemCount = 0;
            orderCount = 0;
            at = 0;
            fault = NONE;
            for (int turn = 0; turn <= MOST_BYTES; turn++) {
                skipBlanks();
                if (fault != NONE || orderCount > 0 && at >= length) {
                    return fault;
                }
                parseOrder();
            }
            return fault;
        }

        void rewind() {
            itemsDone = 0;
        }

        int nextItem() {
            if (itemsDone >= itemCount) {
                return NONE;
            }
            itemsDone++;
            return items[itemsDone - 1];
        }

        private void parseOrder() {
            int letter = byteHere();
            int wanted = numbersOf(letter);
            if (wanted < 0) {
                fault = at;
                return;
            }
            at++;
            addItem(letter);
            for (int i = 0; i < wanted && fault == NONE; i++) {
                skipBlanks();
                int start = at;
                int number = parseNumber(letter == 'c' || letter == 'a' && i == 1);
                addItem(number);
                if (letter == 'n' && fault == NONE) {
                    takePoints(number, start);
                }
            }
            if (fault == NONE) {
                endOrder();
            }
        }

        private void endOrder() {
            skipBlanks();
            if (byteHere() != ';') {
                fault = at;
                return;
            }
            at++;
            orderCount++;
        }

        private void takePoints(int number, int start) {
            if (number < FEWEST_POINTS || number > MOST_POINTS) {
                fault = start;
            } else {
                pointsThen = number;
            }
        }

        private int numbersOf(int letter) {
            switch (letter) {
                case 'z':
                    return 0;
                case 'n':
                case 'f':
                case 'b':
                    return 1;
                case 'a':
                    return 2;
                case 'l':
                    return 3;
                case 'c':
                    return pointsThen;
                default:
                    return NONE;
            }
        }

        private int parseNumber(boolean mayBeDebt) {
            boolean debt = mayBeDebt && byteHere() == '-';
            if (debt) {
                at++;
            }
            int value = 0;
            int figures = 0;
            for (int turn = 0; turn < MOST_FIGURES && isFigureHere(); turn++) {
                value = 10 * value + byteHere() - '0';
                figures++;
                at++;
            }
            if (figures == 0 || isFigureHere()) {
                fault = at;
            }
            return debt ? -value : value;
        }

        private void addItem(int item) {
            if (itemCount < items.length) {
                items[itemCount] = item;
                itemCount++;
            }
        }

        private int byteHere() {
            return at < length ? bytes[at] : NONE;
        }

        private boolean isFigureHere() {
            return byteHere() >= '0' && byteHere() <= '9';
        }

        private void skipBlanks() {
            for (int turn = 0; turn < MOST_BYTES && byteHere() == ' '; turn++) {
                at++;
            }
        }
    }
}
