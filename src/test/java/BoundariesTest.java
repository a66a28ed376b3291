import java.util.ArrayList;
import java.util.function.Supplier;
import java.util.function.ToLongFunction;

/**
 * Each sentence of the document that names a boundary case, in the document's order: "Terms", then the promises. What
 * is BAD stands in RefusalsTest, what THE TEXT may tell in TextBoundariesTest.
 */
public final class BoundariesTest {
    private static final Probe probe = new Probe("BoundariesTest");
    private static final int NONE = -1, BAD = -2, NO = -3;

    public static void main(String[] args) {
        atFirst();
        linesFromNoneToThree();
        joinedFromTheSink();
        chipsFromLeastToMost();
        firing();
        fullOrNot();
        stableHeaps();
        settling();
        burning();
        identities();
        recurrentHeaps();
        orders();
        treesAndParts();
        heapCounts();
        degreesAndGenus();
        wonOrNot();
        reducedRows();
        ranks();
        ranksRefused();
        keptRows();
        ways();
        statesAreFive();
        statesGoRound();
        statesThoughNothingChanges();
        statesHoldAll();
        noStates();
        notJoined();
        points();
        draws();
        sets();
        adds();
        fires();
        borrows();
        together();
        settles();
        script();
        digest();
        probe.end();
    }

    private static void due(String call, long got, long want) {
        probe.due(call, got, want);
    }

    private static void refusedNo(String call, Supplier<FiredChips> make, ToLongFunction<FiredChips> act) {
        probe.refused(call, make, act, NO);
    }

    // ======== Terms

    /** "(2 .. 5; 3 at first)", "(0 at first)", "KEPT rows .. (none at first)", SCRIPT "0 at first"; promise 1 */
    private static void atFirst() {
        FiredChips x = new FiredChips();
        due("at first: N", x.told(4), 3);
        for (int a = 0; a < 3; a++) {
            for (int b = 0; b < 3; b++) {
                due("at first: lines", x.net(a, b), 0);
            }
            due("at first: chips", x.of(a, 0), 1000);
            due("at first: valence", x.of(a, 1), 0);
            due("at first: full", x.of(a, 2), 0);
            due("at first: script", x.script(a), 0);
        }
        due("at first: no fourth point", x.of(3, 0), BAD);
        probe.countsDue("at first, but for that", x, 1, 0, 0);
        due("at first: bytes", x.told(3), 0);
        due("at first: kept", x.told(5), 0);
        due("at first: states", x.told(6), 0);
        due("at first: joined", x.joined(), 0);
        due("at first: stable", x.stable(), 1);
        due("at first: trees", x.trees(), 0);
        refusedNo("at first: back()", FiredChips::new, FiredChips::back);
        due("at first: reads()", new FiredChips().reads(), -10);
        due("at first: clear()", new FiredChips().clear(), 0);
        x.points(5);
        due("another object is as at first", new FiredChips().told(4), 3);
    }

    /** "Between two unlike POINTS there are 0 to 3 LINES", "VALENCE of a POINT: all LINES at it"; promises 3, 5 */
    private static void linesFromNoneToThree() {
        for (int a = 0; a < 5; a++) {
            for (int b = 0; b < 5; b++) {
                if (a != b) {
                    linesOfAPair(a, b);
                }
            }
        }
        FiredChips most = Probe.whole(5, 3);
        for (int p = 0; p < 5; p++) {
            due("most valence", most.net(p, p), 12);
            due("most valence", most.of(p, 1), 12);
        }
        FiredChips x = Probe.chips(Probe.path(3, 1), 9, 4, -5);
        x.lines(0, 2, 1);
        probe.chipsDue("lines leave chips", x, 9, 4, -5);
    }

    private static void linesOfAPair(int a, int b) {
        FiredChips x = Probe.network(5);
        due("lines at first", x.lines(a, b, 3), 0);
        due("lines, the other way", x.lines(b, a, 1), 3);
        due("net", x.net(a, b), 1);
        due("net, the other way", x.net(b, a), 1);
        due("valence", x.net(a, a), 1);
        due("valence", x.of(b, 1), 1);
        due("all lines", x.rank(1), 10 + 1 - 5 + 1);
        due("lines, none again", x.lines(a, b, 0), 1);
        due("net, none again", x.net(a, b), 0);
        probe.leaves("lines(3)", () -> Probe.network(5), Probe.call("lines", a, b, 3), 0);
        probe.leaves("lines(0)", () -> Probe.network(5, b, a, 3), Probe.call("lines", a, b, 0), 3);
    }

    /** "JOINED: each POINT can be come to from THE SINK by LINES"; promise 6 */
    private static void joinedFromTheSink() {
        due("joined: 2 points, no line", Probe.network(2).joined(), 0);
        due("joined: 2 points, a line", Probe.path(2, 1).joined(), 1);
        for (int n = 3; n <= 5; n++) {
            FiredChips x = Probe.whole(n, 3);
            for (int p = 1; p < n; p++) {
                x.lines(0, p, 0);
            }
            due("joined: all but the sink", x.joined(), 0);
            x.lines(0, n - 1, 1);
            due("joined: the sink by one line", x.joined(), 1);
            for (int gone = 1; gone < n; gone++) {
                FiredChips y = Probe.path(n, 1);
                y.lines(gone - 1, gone, 0);
                due("joined: a path that is cut", y.joined(), 0);
                y.lines(0, gone, 1);
                due("joined: mended", y.joined(), 1);
            }
        }
        due("joined: two pairs", Probe.network(4, 0, 1, 3, 2, 3, 3).joined(), 0);
        due("joined: 0 4 1 3 2", Probe.network(5, 0, 4, 1, 4, 1, 1, 1, 3, 1, 3, 2, 1).joined(), 1);
        due("joined: 0 4 3 2 1", Probe.network(5, 0, 4, 1, 4, 3, 1, 3, 2, 1, 2, 1, 1).joined(), 1);
    }

    /** "CHIPS of each POINT: a whole number, -999 .. 999 (0 at first), THE SINK's, too" */
    private static void chipsFromLeastToMost() {
        for (int p = 0; p < 5; p++) {
            int[] most = new int[5];
            int[] least = new int[5];
            most[p] = 999;
            least[p] = -999;
            Supplier<FiredChips> high = () -> Probe.chips(Probe.network(5), most);
            Supplier<FiredChips> low = () -> Probe.chips(Probe.network(5), least);
            probe.chipsDue("most", high.get(), most);
            probe.chipsDue("least", low.get(), least);
            refusedNo("above 999", high, Probe.call("adds", p, 1));
            refusedNo("far above 999", high, Probe.call("adds", p, 99));
            refusedNo("below -999", low, Probe.call("adds", p, -1));
            refusedNo("far below -999", low, Probe.call("adds", p, -99));
            probe.leaves("at 999", high, Probe.call("adds", p, 0), 999);
            probe.leaves("at -999", low, Probe.call("adds", p, 0), -999);
            probe.leaves("away from 999", high, Probe.call("sets", p, 99), 999);
            probe.leaves("away from -999", low, Probe.call("sets", p, -99), -999);
        }
    }

    /** "its CHIPS become less by its VALENCE, each other POINT's more by the LINES between both" */
    private static void firing() {
        for (int p = 0; p < 5; p++) {
            FiredChips x = Probe.whole(5, 3);
            x.lines(0, 1, 0);
            x.lines(2, 3, 1);
            int[] fired = new int[5];
            int[] borrowed = new int[5];
            for (int b = 0; b < 5; b++) {
                fired[b] = b == p ? -x.net(p, p) : x.net(p, b);
                borrowed[b] = -fired[b];
            }
            x.fires(p);
            probe.chipsDue("fires", x, fired);
            x.borrows(p);
            probe.chipsDue("fires, borrows", x, 0, 0, 0, 0, 0);
            x.borrows(p);
            probe.chipsDue("borrows", x, borrowed);
        }
    }

    /** "FULL, if it has as many CHIPS as VALENCE or more, and VALENCE is above 0", "THE SINK never"; promise 14 */
    private static void fullOrNot() {
        for (int k = 0; k <= 3; k++) {
            FiredChips x = Probe.whole(5, k);
            for (int p = 0; p < 5; p++) {
                int some = k > 0 && p > 0 ? 1 : 0;
                due("full, valence less 1", full(x, p, 4 * k - 1), 0);
                due("full, valence", full(x, p, 4 * k), some);
                due("full, valence and 1", full(x, p, 4 * k + 1), some);
                due("full, much", full(x, p, 99), some);
                due("full, debt", full(x, p, -99), 0);
            }
        }
        due("full beside a debt", Probe.triangle(0, 2, -1).of(1, 2), 1);
        due("of, 999 chips", Probe.triangle(999, -999, 0).of(0, 0), 1999);
        due("of, -999 chips", Probe.triangle(999, -999, 0).of(1, 0), 1);
    }

    private static int full(FiredChips x, int p, int chips) {
        x.sets(p, chips);
        int answer = x.of(p, 2);
        x.sets(p, 0);
        return answer;
    }

    /** "HEAP: CHIPS of all POINTS but THE SINK, none below 0", "STABLE: no POINT is FULL"; promise 15 */
    private static void stableHeaps() {
        for (int n = 2; n <= 5; n++) {
            for (int p = 1; p < n; p++) {
                FiredChips x = Probe.path(n, 2);
                for (int each = 1; each < n; each++) {
                    x.sets(each, x.net(each, each) - 1);
                }
                due("stable, one less than full each", x.stable(), 1);
                x.adds(p, 1);
                due("stable, one full", x.stable(), 0);
                x.sets(p, 0);
                due("stable, none on one", x.stable(), 1);
                x.sets(p, -1);
                due("stable, one in debt", x.stable(), 0);
                x.sets(p, 0);
                x.sets(0, 99);
                due("stable, the sink full", x.stable(), 1);
                x.sets(0, -99);
                due("stable, the sink in debt", x.stable(), 1);
            }
        }
        FiredChips x = Probe.chips(Probe.network(3, 0, 1, 1), -999, 0, 999);
        due("stable, much where no line is", x.stable(), 1);
        x.lines(1, 2, 3);
        due("stable, a line comes", x.stable(), 0);
    }

    /** "a FULL POINT FIRES, again and again, until the HEAP is STABLE", "(THE SINK never FIRES; it gets CHIPS.)" */
    private static void settling() {
        probe.leaves("settles, none full", () -> Probe.triangle(50, 1, 1), FiredChips::settles, 0);
        probe.leaves("settles, one just full", () -> Probe.triangle(50, 2, 0), FiredChips::settles, 1);
        probe.leaves("settles, both just full", () -> Probe.triangle(-50, 2, 2), FiredChips::settles, 2);
        settled("none full", Probe.triangle(50, 1, 1), 50, 1, 1);
        settled("one just full", Probe.triangle(50, 2, 0), 51, 0, 1);
        settled("both just full", Probe.triangle(-50, 2, 2), -48, 1, 1);
        settled("2 points, just full", Probe.chips(Probe.path(2, 3), 0, 3), 3, 0);
        settled("2 points, one less", Probe.chips(Probe.path(2, 3), 0, 2), 0, 2);
        settled("2 points, all leave", Probe.chips(Probe.path(2, 1), -999, 999), 0, 0);
        settled("a tree, all leave but those that recur", Probe.chips(Probe.path(5, 1), -999, 0, 0, 0, 999), -3, 1, 1, 1, 0);
    }

    private static void settled(String where, FiredChips x, int... chips) {
        x.settles();
        probe.chipsDue("settled, " + where, x, chips);
        due("settled, " + where + ": stable", x.stable(), 1);
    }

    /** "CHIPS and those LINES together are VALENCE or more", "wave by wave", "if all POINTS burn"; promise 16 */
    private static void burning() {
        burns("2 points, none", () -> Probe.path(2, 3), 3, 1, 1);
        burns("just burns", () -> Probe.chips(Probe.path(3, 2), 0, 2, 0), 7, 2, 1);
        burns("one less", () -> Probe.chips(Probe.path(3, 2), 0, 1, 1), 1, 0, 0);
        burns("the last by both", () -> Probe.triangle(0, 1, 0), 7, 2, 1);
        burns("those of one wave do not help in it", () -> Probe.triangle(0, 0, 1), 7, 2, 1);
        burns("both in one wave", () -> Probe.triangle(0, 1, 1), 7, 1, 1);
        burns("none", () -> Probe.triangle(0, 0, 0), 1, 0, 0);
        burns("the sink's debt", () -> Probe.triangle(-999, 0, 0), 1, 0, 0);
        burns("the sink's chips", () -> Probe.triangle(999, 1, 0), 7, 2, 1);
        burns("most waves", () -> Probe.chips(Probe.path(5, 1), 0, 1, 1, 1, 0), 31, 4, 1);
        burns("a gap", () -> Probe.chips(Probe.path(5, 1), 0, 1, 0, 1, 0), 3, 1, 0);
        burns("all but one", () -> Probe.chips(Probe.network(4, 0, 1, 1, 1, 2, 2, 0, 3, 1), 0, 2, 0, 0), 15, 2, 1);
        burns("VALENCE 0", () -> Probe.network(5), 31, 1, 1);
        burns("an island", () -> Probe.network(4, 1, 2, 1), 9, 1, 0);
        for (int what = 0; what <= 2; what++) {
            refusedNo("burns, full", () -> Probe.triangle(0, 1, 2), Probe.call("burns", what));
            refusedNo("burns, debt", () -> Probe.triangle(0, 1, -1), Probe.call("burns", what));
            refusedNo("burns, full, not joined", () -> Probe.chips(Probe.network(3, 1, 2, 1), 0, 0, 1),
                Probe.call("burns", what));
        }
    }

    private static void burns(String where, Supplier<FiredChips> make, int bits, int waves, int all) {
        probe.asked("burns(0), " + where, make, Probe.call("burns", 0), bits);
        probe.asked("burns(1), " + where, make, Probe.call("burns", 1), waves);
        probe.asked("burns(2), " + where, make, Probe.call("burns", 2), all);
    }

    /** "IDENTITY: the RECURRENT HEAP that ADDED to itself is itself"; promise 19 */
    private static void identities() {
        int[][] nets = {{2, 1}, {2, 3}, {3, 1}, {3, 3}, {4, 2}, {5, 1}, {5, 3}};
        for (int[] net : nets) {
            identityOf(Probe.whole(net[0], net[1]));
            identityOf(Probe.path(net[0], net[1]));
        }
        FiredChips tree = Probe.path(5, 1);
        int[] alone = {0, 1, 1, 1, 0};
        for (int p = 0; p < 5; p++) {
            due("identity, the one heap of a tree", tree.identity(p), alone[p]);
        }
        due("identity, 2 points", Probe.path(2, 3).identity(1), 0);
        FiredChips used = Probe.triangle(5, 8, 9);
        used.reduced(1, 1);
        due("identity behind reduced()", used.identity(1), 1);
        used.recurrent(1);
        due("identity behind recurrent()", used.identity(2), 1);
        probe.asked("identity, whatever the chips", () -> Probe.triangle(5, -999, 999), Probe.call("identity", 1), 1);
        probe.asked("identity, the sink", () -> Probe.triangle(5, -999, 999), Probe.call("identity", 0), 0);
    }

    private static void identityOf(FiredChips x) {
        int n = x.told(4);
        int[] identity = new int[n];
        for (int p = 0; p < n; p++) {
            identity[p] = x.identity(p);
        }
        due("identity, the sink", identity[0], 0);
        Probe.chips(x, identity);
        due("identity burns", x.burns(2), 1);
        due("identity's order", x.order(), 1);
        for (int p = 0; p < n; p++) {
            due("identity is its own recurrent heap", x.recurrent(p), identity[p]);
        }
        for (int p = 0; p < n; p++) {
            x.adds(p, identity[p]);
        }
        x.settles();
        for (int p = 1; p < n; p++) {
            due("identity added to itself", x.of(p, 0) - 1000, identity[p]);
        }
    }

    /** "For each HEAP there is one RECURRENT HEAP alone that is EQUAL to it"; promise 20 */
    private static void recurrentHeaps() {
        int[][] chips = {{0, 0, 0, 0, 0}, {999, 999, 999, 999, 999}, {-999, 0, 0, 0, 999}, {0, 999, 0, 1, 0}, {7, 3, 3, 3, 3}};
        for (int[] row : chips) {
            for (int k = 1; k <= 3; k++) {
                recurrentOf(Probe.chips(Probe.whole(5, k), row), row);
                recurrentOf(Probe.chips(Probe.path(5, k), row), row);
            }
        }
        for (int v = 0; v <= 3; v++) {
            int left = v % 3;
            probe.asked("recurrent, 2 points", () -> Probe.chips(Probe.path(2, 3), -999, left), Probe.call("recurrent", 1), left);
            probe.asked("recurrent, the sink", () -> Probe.chips(Probe.path(2, 3), -999, left), Probe.call("recurrent", 0), 0);
        }
        due("recurrent, just full", Probe.chips(Probe.path(2, 3), 0, 3).recurrent(1), 0);
        refusedNo("recurrent, debt of the first", () -> Probe.triangle(0, -1, 5), Probe.call("recurrent", 0));
        refusedNo("recurrent, debt of the last", () -> Probe.triangle(0, 5, -1), Probe.call("recurrent", 1));
    }

    private static void recurrentOf(FiredChips x, int[] row) {
        int[] heap = new int[5];
        int sum = 0;
        for (int p = 1; p < 5; p++) {
            heap[p] = x.recurrent(p);
            sum += row[p] - heap[p];
        }
        // The sink's chips make up the degree; then EQUAL can be asked.
        heap[0] = 500;
        int[] from = row.clone();
        from[0] = 500 - sum;
        if (Math.abs(from[0]) > 999) {
            heap[0] = 0;
            from = null;
        }
        Probe.chips(x, heap);
        due("recurrent burns", x.burns(2), 1);
        for (int p = 1; p < 5; p++) {
            due("recurrent, again", x.recurrent(p), heap[p]);
        }
        if (from != null) {
            x.keeps(0);
            Probe.chips(x, from);
            due("recurrent is equal", x.equal(0), 1);
        }
    }

    /** "ORDER of a HEAP: the least k (1 or more)"; promise 21 */
    private static void orders() {
        int[] due = {1, 3, 3, 1, 3, 3, 1};
        for (int v = 0; v < due.length; v++) {
            int chips = v;
            probe.asked("order of " + v, () -> Probe.chips(Probe.path(2, 3), -999, chips), FiredChips::order, due[v]);
        }
        due("order of 999", Probe.chips(Probe.path(2, 3), 0, 999).order(), 1);
        due("order of 998", Probe.chips(Probe.path(2, 3), 0, 998).order(), 3);
        FiredChips ring = Probe.path(5, 1);
        ring.lines(4, 0, 1);
        for (int v = 0; v <= 5; v++) {
            due("order on a ring", Probe.chips(ring, 0, v, 0, 0, 0).order(), v % 5 == 0 ? 1 : 5);
        }
        FiredChips six = Probe.network(3, 0, 1, 2, 0, 2, 3);
        due("order 6, of 2 and 3", Probe.chips(six, 0, 1, 1).order(), 6);
        due("order 2", Probe.chips(six, 0, 1, 3).order(), 2);
        due("order 3", Probe.chips(six, 0, 2, 1).order(), 3);
        due("order on a tree", Probe.chips(Probe.path(5, 1), 0, 1, 2, 3, 4).order(), 1);
        refusedNo("order, debt of the first", () -> Probe.triangle(0, -1, 5), FiredChips::order);
        refusedNo("order, debt of the last", () -> Probe.triangle(0, 5, -1), FiredChips::order);
        probe.asked("order, the sink's debt", () -> Probe.triangle(-1, 1, 0), FiredChips::order, 3);
    }

    /** "TREES: how many sets of N less 1 LINES", "PARTS .. numbers above 1, each a divisor of the next"; promises 17, 18 */
    private static void treesAndParts() {
        due("trees, nothing", Probe.network(5).trees(), 0);
        due("trees, one left out", Probe.network(5, 0, 1, 3, 1, 2, 3, 2, 3, 3).trees(), 0);
        due("trees, a tree", Probe.path(5, 1).trees(), 1);
        for (int k = 1; k <= 3; k++) {
            due("trees, unlike lines", Probe.path(2, k).trees(), k);
            due("trees, unlike lines", Probe.path(5, k).trees(), k * k * k * k);
        }
        due("trees, most", Probe.whole(5, 3).trees(), 125 * 81);
        probe.asked("trees, not joined", FiredChips::new, FiredChips::trees, 0);
        partsDue("a tree", Probe.path(5, 1));
        partsDue("2 points, 1 line", Probe.path(2, 1));
        partsDue("2 points, 3 lines", Probe.path(2, 3), 3);
        partsDue("as many as can be", Probe.path(5, 2), 2, 2, 2, 2);
        partsDue("as many as can be, the greatest", Probe.whole(5, 3), 3, 15, 15, 15);
        partsDue("no common divisor", Probe.network(3, 0, 1, 2, 0, 2, 3), 6);
        partsDue("2 3 2 3", Probe.network(5, 0, 1, 2, 1, 2, 3, 2, 3, 2, 3, 4, 3), 6, 6);
        partsDue("1 2 1 3", Probe.network(5, 0, 1, 1, 1, 2, 2, 2, 3, 1, 3, 4, 3), 6);
        partsDue("3 3 2", Probe.network(4, 0, 1, 3, 1, 2, 3, 2, 3, 2), 3, 6);
    }

    private static void partsDue(String where, FiredChips x, int... parts) {
        due("parts(-1), " + where, x.parts(-1), parts.length);
        for (int i = 0; i < parts.length; i++) {
            due("parts(" + i + "), " + where, x.parts(i), parts[i]);
        }
        due("parts, one too many, " + where, x.parts(parts.length), NONE);
        due("parts, far too many, " + where, x.parts(Integer.MAX_VALUE), NONE);
        probe.countsDue("parts, NONE is no refusal", x, 0, 0, 0);
    }

    /** "How many STABLE HEAPS there are (what 0), of these RECURRENT ones (1)"; promise 22: all are counted here */
    private static void heapCounts() {
        heapsDue(() -> Probe.path(2, 1));
        heapsDue(() -> Probe.path(2, 3));
        heapsDue(() -> Probe.path(3, 3));
        heapsDue(() -> Probe.whole(3, 3));
        heapsDue(() -> Probe.whole(4, 1));
        due("heaps(0), most", Probe.whole(5, 3).heaps(0), 12 * 12 * 12 * 12);
        due("heaps(1), most", Probe.whole(5, 3).heaps(1), 125 * 81);
        due("heaps(0), least", Probe.path(2, 1).heaps(0), 1);
        due("heaps(1), least", Probe.path(5, 1).heaps(1), 1);
    }

    private static void heapsDue(Supplier<FiredChips> make) {
        int n = make.get().told(4);
        int stable = 0;
        int recurrent = 0;
        for (int heap = 0; heap < 1 << 3 * (n - 1); heap++) {
            FiredChips x = make.get();
            for (int p = 1; p < n; p++) {
                x.sets(p, heap >> 3 * (p - 1) & 7);
            }
            stable += x.stable();
            recurrent += x.stable() == 1 ? x.burns(2) : 0;
        }
        due("heaps(0), counted", make.get().heaps(0), stable);
        due("heaps(1), counted", make.get().heaps(1), recurrent);
    }

    /** "DEGREE: CHIPS of all POINTS together", "GENUS: all LINES, less N, and 1"; promises 23, 26 */
    private static void degreesAndGenus() {
        Supplier<FiredChips> most = () -> Probe.chips(Probe.whole(5, 3), 999, 999, 999, 999, 999);
        Supplier<FiredChips> least = () -> Probe.chips(Probe.network(5), -999, -999, -999, -999, -999);
        probe.asked("degree, most", most, Probe.call("rank", 0), 10000 + 4995);
        probe.asked("degree, least", least, Probe.call("rank", 0), 10000 - 4995);
        probe.leaves("keeps, most", most, Probe.call("keeps", 0), 10000 + 4995);
        probe.leaves("keeps, least", least, Probe.call("keeps", 2), 10000 - 4995);
        probe.asked("genus, most", most, Probe.call("rank", 1), 10 + 26);
        probe.asked("genus, least", least, Probe.call("rank", 1), 10 - 4);
        due("genus, a tree", Probe.path(4, 1).rank(1), 10);
        due("genus, 2 points, no line", Probe.network(2).rank(1), 9);
        due("genus, 2 points, 3 lines", Probe.path(2, 3).rank(1), 12);
    }

    /** "WON: EQUAL to a row of CHIPS none of which is below 0"; promise 25 */
    private static void wonOrNot() {
        probe.asked("won, none at all", () -> Probe.triangle(0, 0, 0), FiredChips::won, 1);
        probe.asked("won, one less", () -> Probe.triangle(0, 0, -1), FiredChips::won, 0);
        probe.asked("won, DEGREE 0 but not EQUAL to none", () -> Probe.triangle(1, -1, 0), FiredChips::won, 0);
        probe.asked("won, DEGREE 0, EQUAL to none", () -> Probe.triangle(2, -1, -1), FiredChips::won, 1);
        probe.asked("won, DEGREE 1", () -> Probe.triangle(-999, 999, 1), FiredChips::won, 1);
        probe.asked("won, a tree, DEGREE 0", () -> Probe.chips(Probe.path(5, 1), 999, -999, 0, 999, -999), FiredChips::won, 1);
        probe.asked("won, a tree, DEGREE -1", () -> Probe.chips(Probe.path(5, 1), 999, -999, -1, 999, -999), FiredChips::won, 0);
        probe.asked("won, least", () -> Probe.chips(Probe.whole(5, 3), -999, -999, -999, -999, -999), FiredChips::won, 0);
        probe.asked("won, most", () -> Probe.chips(Probe.whole(5, 3), 999, 999, 999, 999, 999), FiredChips::won, 1);
        // rows of 2 points and 3 lines: (c, -1) is (c - 3, 2), not below 0 from 3 on
        probe.asked("won, (2, -1)", () -> Probe.chips(Probe.path(2, 3), 2, -1), FiredChips::won, 0);
        probe.asked("won, (3, -1)", () -> Probe.chips(Probe.path(2, 3), 3, -1), FiredChips::won, 1);
        // DEGREE GENUS less 1 may be lost, DEGREE GENUS never is
        probe.asked("won, (-1, 2)", () -> Probe.chips(Probe.path(2, 3), -1, 2), FiredChips::won, 0);
        probe.asked("won, (-1, 3)", () -> Probe.chips(Probe.path(2, 3), -1, 3), FiredChips::won, 1);
    }

    /** "0 or more on all POINTS but q", "no set of POINTS without q .. can FIRE together so that all .. have 0 or more" */
    private static void reducedRows() {
        reducedDue("2 points, as many as lines", Probe.chips(Probe.path(2, 3), 0, 3), 0, 3, 0);
        reducedDue("2 points, one less", Probe.chips(Probe.path(2, 3), 0, 2), 0, 0, 2);
        reducedDue("2 points, a debt", Probe.chips(Probe.path(2, 3), 0, -1), 0, -3, 2);
        reducedDue("2 points, at the other", Probe.chips(Probe.path(2, 3), 3, 0), 1, 0, 3);
        reducedDue("2 points, at the other, a debt", Probe.chips(Probe.path(2, 3), -1, 0), 1, 2, -3);
        reducedDue("both together can", Probe.triangle(0, 1, 1), 0, 2, 0, 0);
        reducedDue("neither can", Probe.triangle(0, 1, 0), 0, 0, 1, 0);
        reducedDue("none at all", Probe.triangle(0, 0, 0), 2, 0, 0, 0);
        reducedDue("at 1", Probe.triangle(1, 0, 1), 1, 0, 2, 0);
        reducedDue("at 2", Probe.triangle(1, 1, 0), 2, 0, 0, 2);
        reducedDue("a tree, all at q", Probe.chips(Probe.path(5, 1), 999, 999, 999, 999, 999), 3, 0, 0, 0, 4995, 0);
        reducedDue("a tree, all debts at q", Probe.chips(Probe.path(5, 1), -999, -999, -999, -999, -999), 0, -4995, 0, 0, 0, 0);
        refusedNo("reduced, not joined", () -> Probe.network(3, 0, 1, 3), Probe.call("reduced", 1, 1));
        for (int k = 1; k <= 3; k++) {
            for (int q = 0; q < 5; q++) {
                reducedRightly(Probe.chips(Probe.whole(5, k), 999, -999, 999, -999, 7), q);
                reducedRightly(Probe.chips(Probe.path(5, k), -999, -999, 5, 999, 999), q);
            }
        }
    }

    private static void reducedDue(String where, FiredChips x, int q, int... row) {
        for (int p = 0; p < row.length; p++) {
            due("reduced(" + q + ", " + p + "), " + where, x.reduced(q, p), row[p] + 10000);
        }
    }

    /** As the definition tells, with each set tried. */
    private static void reducedRightly(FiredChips x, int q) {
        int[] row = new int[5];
        int[][] lines = new int[5][5];
        int sum = 0;
        for (int p = 0; p < 5; p++) {
            row[p] = x.reduced(q, p) - 10000;
            sum += row[p];
            probe.check("reduced: debt at " + p, p == q || row[p] >= 0);
            for (int b = 0; b < 5; b++) {
                lines[p][b] = b == p ? 0 : x.net(p, b);
            }
        }
        due("reduced: degree", sum + 10000, x.rank(0));
        for (int set = 1; set < 32; set++) {
            boolean can = (set >> q & 1) == 0;
            for (int p = 0; p < 5 && can; p++) {
                int left = row[p];
                for (int b = 0; b < 5; b++) {
                    left -= (set >> b & 1) == 0 ? lines[p][b] : 0;
                }
                can = (set >> p & 1) == 0 || left >= 0;
            }
            probe.check("reduced at " + q + ": the set " + set + " can fire", !can);
        }
        x.keeps(0);
        if (Math.abs(row[q]) <= 999) {
            Probe.chips(x, row);
            due("reduced is equal", x.equal(0), 1);
        }
    }

    /** "RANK: -1, if it is not WON; else the greatest r so that, whatever r CHIPS in all .. are taken off"; promise 23 */
    private static void ranks() {
        Supplier<FiredChips> lost = () -> Probe.triangle(1, -1, 0);
        probe.asked("rank, not won", lost, Probe.call("rank", 2), 0);
        probe.asked("rank, won, no chip to spare", () -> Probe.triangle(0, 0, 0), Probe.call("rank", 2), 1);
        probe.asked("rank, DEGREE -1", () -> Probe.triangle(0, 0, -1), Probe.call("rank", 2), 0);
        probe.asked("rank, far below", () -> Probe.triangle(-999, -999, -999), Probe.call("rank", 2), 0);
        for (int d = 0; d <= 12; d++) {
            int chips = d;
            probe.asked("rank on a tree", () -> Probe.chips(Probe.path(5, 1), 0, 0, chips, 0, 0), Probe.call("rank", 2), d + 1);
            probe.asked("rank on a ring", () -> Probe.triangle(0, chips, 0), Probe.call("rank", 2), Math.max(d, 1));
        }
        // 2 points, 3 lines, GENUS 2: two chips are worth more on both points than on one
        probe.asked("rank of (1, 1)", () -> Probe.chips(Probe.path(2, 3), 1, 1), Probe.call("rank", 2), 2);
        probe.asked("rank of (2, 0)", () -> Probe.chips(Probe.path(2, 3), 2, 0), Probe.call("rank", 2), 1);
        probe.asked("rank of (0, 2)", () -> Probe.chips(Probe.path(2, 3), 0, 2), Probe.call("rank", 2), 1);
        probe.asked("rank of (3, 0)", () -> Probe.chips(Probe.path(2, 3), 3, 0), Probe.call("rank", 2), 2);
        // 3 points and GENUS 4: up to DEGREE 2 GENUS less 2 the DUAL tells the rest
        for (int d = -5; d <= 12; d++) {
            FiredChips x = Probe.chips(Probe.whole(3, 2), d - 3, 5, -2);
            due("rank and dual: Riemann, Roch", x.rank(2) - x.rank(3), d + 1 - 4);
        }
        FiredChips canonical = Probe.chips(Probe.whole(5, 1), 2, 2, 2, 2, 2);
        due("rank of what the dual of none is", canonical.rank(2), 6);
        due("dual of that", canonical.rank(3), 1);
        FiredChips near = Probe.chips(Probe.whole(5, 1), 2, 2, 2, 2, 1);
        due("rank, one less", near.rank(2), 5);
        due("dual, one more", near.rank(3), 1);
    }

    /** "NO: not JOINED (2, 3); DEGREE above 12, of the DUAL above 12 (3)" */
    private static void ranksRefused() {
        // the DUAL's DEGREE is 2 GENUS less 2 less DEGREE: on a ring 0 less DEGREE
        Supplier<FiredChips> twelve = () -> Probe.triangle(999, -999, 12);
        Supplier<FiredChips> thirteen = () -> Probe.triangle(999, -999, 13);
        Supplier<FiredChips> dualTwelve = () -> Probe.triangle(999, -999, -12);
        Supplier<FiredChips> dualThirteen = () -> Probe.triangle(999, -999, -13);
        probe.asked("rank(2), DEGREE 12", twelve, Probe.call("rank", 2), 12);
        refusedNo("rank(2), DEGREE 13", thirteen, Probe.call("rank", 2));
        probe.asked("rank(3), DEGREE 13, the DUAL's -13", thirteen, Probe.call("rank", 3), 0);
        probe.asked("rank(0), DEGREE 13", thirteen, Probe.call("rank", 0), 10013);
        probe.asked("rank(1), DEGREE 13", thirteen, Probe.call("rank", 1), 11);
        probe.asked("rank(3), the DUAL's 12", dualTwelve, Probe.call("rank", 3), 12);
        refusedNo("rank(3), the DUAL's 13", dualThirteen, Probe.call("rank", 3));
        probe.asked("rank(2), the DUAL's 13", dualThirteen, Probe.call("rank", 2), 0);
        probe.asked("rank(2), most debts", () -> Probe.triangle(-999, -999, -999), Probe.call("rank", 2), 0);
        refusedNo("rank(3), most debts", () -> Probe.triangle(-999, -999, -999), Probe.call("rank", 3));
        refusedNo("rank(2), most", () -> Probe.triangle(999, 999, 999), Probe.call("rank", 2));
        probe.asked("rank(3), most", () -> Probe.triangle(999, 999, 999), Probe.call("rank", 3), 0);
        Supplier<FiredChips> both = () -> Probe.chips(Probe.whole(5, 3), 13, 0, 0, 0, 0);
        refusedNo("rank(2), both above 12", both, Probe.call("rank", 2));
        refusedNo("rank(3), both above 12", both, Probe.call("rank", 3));
        Supplier<FiredChips> apart = () -> Probe.chips(Probe.network(3, 0, 1, 1), 0, 0, 0);
        refusedNo("rank(2), not joined", apart, Probe.call("rank", 2));
        refusedNo("rank(3), not joined", apart, Probe.call("rank", 3));
        probe.asked("rank(0), not joined", apart, Probe.call("rank", 0), 10000);
        probe.asked("rank(1), not joined", apart, Probe.call("rank", 1), 9);
    }

    /** "KEPT rows 0 .. 2 (none at first): CHIPS of all POINTS, with N, as then"; promises 26, 27 */
    private static void keptRows() {
        for (int s = 0; s <= 2; s++) {
            int row = s;
            Supplier<FiredChips> others = () -> keptBut(row);
            due("kept, but one", others.get().told(5), 7 - (1 << s));
            refusedNo("equal, none is kept so", others, Probe.call("equal", s));
            refusedNo("way, none is kept so", others, Probe.call("way", s, 0));
            probe.leaves("keeps", others, Probe.call("keeps", s), 10005);
            FiredChips x = others.get();
            x.keeps(s);
            due("kept, all", x.told(5), 7);
            due("kept so", x.equal(s), 1);
        }
        for (int n = 2; n <= 5; n++) {
            int points = n;
            Supplier<FiredChips> of3 = () -> keptOfThree(points);
            if (n == 3) {
                probe.asked("equal, N again", of3, Probe.call("equal", 0), 1);
                probe.asked("way, N again", of3, Probe.call("way", 0, 0), 100000);
            } else {
                refusedNo("equal, another N", of3, Probe.call("equal", 0));
                refusedNo("way, another N", of3, Probe.call("way", 0, 0));
            }
            FiredChips x = of3.get();
            due("kept stays when N becomes " + n, x.told(5), 1);
            due("kept anew with " + n, x.keeps(0), 10005);
            due("kept anew with " + n, x.equal(0), 1);
        }
        FiredChips x = Probe.triangle(5, 0, 0);
        x.keeps(0);
        x.sets(0, 6);
        due("the kept row stays as then", x.equal(0), 0);
        x.sets(0, 5);
        due("the kept row stays as then", x.equal(0), 1);
        due("EQUAL: another DEGREE by one", Probe.chips(x, 4, 0, 0).equal(0), 0);
        due("EQUAL: DEGREE alike, not by firing", Probe.chips(x, 4, 1, 0).equal(0), 0);
        due("EQUAL: by firing", Probe.chips(x, 2, 3, 0).equal(0), 1);
        // on a ring of three, the others' chips are alike by 3 in rows that are EQUAL
        due("EQUAL: far, not", Probe.chips(x, 999, -999, 5).equal(0), 0);
        due("EQUAL: far", Probe.chips(x, 999, -995, 1).equal(0), 1);
    }

    private static FiredChips keptBut(int s) {
        FiredChips x = Probe.triangle(1, 2, 2);
        for (int row = 0; row <= 2; row++) {
            if (row != s) {
                x.keeps(row);
            }
        }
        return x;
    }

    private static FiredChips keptOfThree(int n) {
        FiredChips x = Probe.triangle(5, 0, 0);
        x.keeps(0);
        x.points(n);
        x.sets(0, 5);
        for (int p = 1; p < n; p++) {
            x.lines(p - 1, p, 1);
        }
        return x;
    }

    /** "how often each POINT has to FIRE (below 0: BORROW), THE SINK not at all"; promise 28 */
    private static void ways() {
        FiredChips x = Probe.whole(4, 2);
        x.keeps(1);
        for (int p = 0; p < 4; p++) {
            due("way, nothing to do", x.way(1, p), 100000);
        }
        x.fires(0);
        int[] due = {0, 1, 1, 1};
        for (int p = 0; p < 4; p++) {
            due("way behind the sink's firing: all others fire", x.way(1, p), 100000 + due[p]);
        }
        x.adds(0, 1);
        for (int p = 0; p < 4; p++) {
            due("way, not equal", x.way(1, p), NONE);
        }
        due("way, not equal, is no refusal", x.told(0) + x.told(1), 0);
        FiredChips far = Probe.chips(Probe.path(5, 1), -999, 999, 999, 999, 999);
        far.keeps(0);
        Probe.chips(far, 999, -999, 999, 999, 999);
        // what comes to point 0 over its line goes over each: 1998 from 0 to 1
        int[] one = {0, -1998, -1998, -1998, -1998};
        for (int p = 0; p < 5; p++) {
            due("way far", far.way(0, p), 100000 + one[p]);
        }
        Probe.chips(far, 999, 999, 999, 999, -999);
        int[] all = {0, -1998, -3996, -5994, -7992};
        for (int p = 0; p < 5; p++) {
            due("way farther", far.way(0, p), 100000 + all[p]);
        }
    }

    /** "5 at most, older ones lost"; promise 32 "how many can be yet", "NO: none" */
    private static void statesAreFive() {
        for (int made = 0; made <= 7; made++) {
            FiredChips x = new FiredChips();
            for (int v = 1; v <= made; v++) {
                x.sets(0, v);
                due("states", x.told(6), Math.min(v, 5));
            }
            int left = Math.min(made, 5);
            for (int v = made - 1; v >= 0 && v >= made - 5; v--) {
                left--;
                due("back()", x.back(), left);
                due("back: chips", x.of(0, 0), 1000 + v);
                due("back: states", x.told(6), left);
            }
            int sets = made;
            refusedNo("back, none left", () -> {
                FiredChips y = new FiredChips();
                for (int v = 1; v <= sets; v++) {
                    y.sets(0, v);
                }
                for (int v = 0; v < Math.min(sets, 5); v++) {
                    y.back();
                }
                return y;
            }, FiredChips::back);
        }
    }

    /** STATES come and go many times, as a plain list of them would. */
    private static void statesGoRound() {
        FiredChips x = new FiredChips();
        ArrayList<Integer> list = new ArrayList<>();
        int now = 0;
        int[] moves = {3, -1, 4, -2, 1, -4, -1, 5, -5, 6, -5, 7, -3, 2, -5, 1, -1, 12, -5};
        int v = 0;
        for (int move : moves) {
            for (int i = 0; i < Math.abs(move); i++) {
                if (move > 0) {
                    list.add(now);
                    now = ++v;
                    x.sets(1, now);
                    if (list.size() > 5) {
                        list.remove(0);
                    }
                } else if (list.isEmpty()) {
                    due("back, none", x.back(), NO);
                } else {
                    now = list.remove(list.size() - 1);
                    due("back", x.back(), list.size());
                }
                due("round: chips", x.of(1, 0), 1000 + now);
                due("round: states", x.told(6), list.size());
            }
        }
    }

    /** "each call told S, if it is not refused, leaves one, also if nothing changes by it" */
    private static void statesThoughNothingChanges() {
        Supplier<FiredChips> plain = () -> Probe.network(3);
        Supplier<FiredChips> ring = () -> {
            FiredChips x = Probe.triangle(5, 0, 0);
            x.keeps(1);
            return x;
        };
        probe.leaves("points, the same", plain, Probe.call("points", 3), 3);
        probe.leaves("lines, the same", ring, Probe.call("lines", 0, 1, 1), 1);
        probe.leaves("lines, none as before", plain, Probe.call("lines", 0, 1, 0), 0);
        Supplier<FiredChips> drawn = () -> {
            FiredChips x = new FiredChips();
            x.draws(7);
            return x;
        };
        probe.leaves("draws, the same", drawn, Probe.call("draws", 7), drawn.get().rank(1) - 10 + 3 - 1);
        probe.leaves("sets, the same", ring, Probe.call("sets", 0, 5), 5);
        probe.leaves("adds, none", ring, Probe.call("adds", 0, 0), 5);
        probe.leaves("fires without lines", plain, Probe.call("fires", 2), 1);
        probe.leaves("borrows without lines", plain, Probe.call("borrows", 0), 1);
        probe.leaves("together, all", ring, Probe.call("together", 7), 0);
        probe.leaves("settles, stable", ring, FiredChips::settles, 0);
        probe.leaves("keeps, the same", ring, Probe.call("keeps", 1), 10005);
        probe.leaves("reads, nothing changes", () -> {
            FiredChips x = Probe.triangle(5, 0, 0);
            Probe.typed(x, "f0;b0;");
            return x;
        }, FiredChips::reads, 2);
    }

    /** "to go back to (THE NETWORK, CHIPS, KEPT rows, SCRIPT)": each call told S on much that can change */
    private static void statesHoldAll() {
        Supplier<FiredChips> rich = () -> {
            FiredChips x = Probe.network(5);
            Probe.reads(x, "l0 1 1;l1 2 2;l2 3 3;l3 4 1;l4 0 2;c 9 20 0 -1 4;a3 9;z;c0 9 1-7 2;");
            x.keeps(0);
            x.sets(4, 5);
            x.sets(1, 6);
            x.keeps(2);
            x.sets(1, 9);
            x.sets(4, 2);
            Probe.typed(x, "n2;l0 1 2;c0 5;z;");
            return x;
        };
        due("rich: script", rich.get().script(1) > 0 ? 1 : 0, 1);
        probe.leaves("points(2)", rich, Probe.call("points", 2), 5);
        probe.leaves("points(5)", rich, Probe.call("points", 5), 5);
        probe.leaves("lines", rich, Probe.call("lines", 4, 2, 3), 0);
        probe.leaves("draws", rich, Probe.call("draws", 999999), drawnLines(999999, 5));
        probe.leaves("sets", rich, Probe.call("sets", 3, 99), -7);
        probe.leaves("adds", rich, Probe.call("adds", 3, 2), -5);
        probe.leaves("fires", rich, Probe.call("fires", 4), 1);
        probe.leaves("borrows", rich, Probe.call("borrows", 0), 1);
        probe.leaves("together", rich, Probe.call("together", 3), 4);
        probe.leaves("keeps", rich, Probe.call("keeps", 1), 10005);
        probe.leaves("keeps, as before", rich, Probe.call("keeps", 0), 10005);
        probe.leaves("keeps, over another row", rich, Probe.call("keeps", 2), 10005);
        probe.leaves("reads", rich, FiredChips::reads, 4);
        Supplier<FiredChips> heap = () -> {
            FiredChips x = rich.get();
            x.sets(3, 50);
            return x;
        };
        FiredChips x = heap.get();
        int fired = x.settles();
        probe.leaves("settles", heap, FiredChips::settles, fired);
    }

    private static int drawnLines(long seed, int n) {
        long v = seed;
        int sum = 0;
        for (int i = 0; i < n * (n - 1) / 2; i++) {
            v = (v * 1103515245L + 12345L) % 2147483648L;
            sum += (int) (v / 65536 % 3);
        }
        return sum;
    }

    /** Calls not told S leave no STATE; THE TEXT and the counts do not go back. */
    private static void noStates() {
        Supplier<FiredChips> make = () -> {
            FiredChips x = Probe.triangle(5, 0, 0);
            Probe.typed(x, "z");
            return x;
        };
        FiredChips x = make.get();
        int states = x.told(6);
        x.type(65);
        x.clear();
        x.type(90);
        x.told(3);
        x.digest();
        x.reads();
        due("no states", x.told(6), states);
        x.told(-1);
        x.equal(0);
        x.back();
        due("back: bytes stay", x.told(3), 1);
        probe.countsDue("back: counts stay", x, 1, 1, 0);
        due("back leaves none", x.told(6), states - 1);
        probe.asked("digest changes nothing", make, y -> {
            y.digest();
            return 0;
        }, 0);
        for (int what = 0; what <= 6; what++) {
            probe.asked("told changes nothing", make, Probe.call("told", what), make.get().told(what));
        }
        probe.asked("a FAULT changes nothing", make, FiredChips::reads, -11);
    }

    /** Each "NO: not JOINED", and the calls that do not need it */
    private static void notJoined() {
        Supplier<FiredChips> apart = () -> {
            FiredChips x = Probe.chips(Probe.network(4, 0, 1, 1, 2, 3, 1), 1, 0, 0, 0);
            x.keeps(0);
            return x;
        };
        String[] calls = {"settles", "order", "won"};
        for (String name : calls) {
            refusedNo(name + ", not joined", apart, Probe.call(name));
        }
        for (int i = -1; i <= 1; i++) {
            refusedNo("parts, not joined", apart, Probe.call("parts", i));
        }
        refusedNo("parts far, not joined", apart, Probe.call("parts", Integer.MAX_VALUE));
        for (int p = 0; p < 4; p++) {
            refusedNo("identity, not joined", apart, Probe.call("identity", p));
            refusedNo("recurrent, not joined", apart, Probe.call("recurrent", p));
            refusedNo("reduced, not joined", apart, Probe.call("reduced", p, 3 - p));
            refusedNo("way, not joined", apart, Probe.call("way", 0, p));
        }
        refusedNo("heaps(0), not joined", apart, Probe.call("heaps", 0));
        refusedNo("heaps(1), not joined", apart, Probe.call("heaps", 1));
        refusedNo("equal, not joined", apart, Probe.call("equal", 0));
        probe.asked("joined", apart, FiredChips::joined, 0);
        probe.asked("stable, not joined", apart, FiredChips::stable, 1);
        probe.asked("trees, not joined", apart, FiredChips::trees, 0);
        probe.leaves("fires, not joined", apart, Probe.call("fires", 3), 1);
        probe.leaves("together, not joined", apart, Probe.call("together", 12), 0);
        probe.leaves("keeps, not joined", apart, Probe.call("keeps", 2), 10001);
    }

    // ======== the promises

    /** "N; no LINES, no CHIPS, SCRIPT 0 (KEPT rows stay): N as it was." */
    private static void points() {
        for (int from = 2; from <= 5; from++) {
            for (int to = 2; to <= 5; to++) {
                FiredChips x = Probe.chips(Probe.path(from, 1), -90, 50, 9, 9, 9);
                x.settles();
                x.keeps(1);
                due("points", x.points(to), from);
                due("points: N", x.told(4), to);
                due("points: kept", x.told(5), 2);
                for (int p = 0; p < to; p++) {
                    due("points: lines", x.net(p, p), 0);
                    due("points: chips", x.of(p, 0), 1000);
                    due("points: script", x.script(p), 0);
                }
                due("points: one too many", x.of(to, 0), BAD);
                x.points(5);
                for (int p = 0; p < 5; p++) {
                    due("points: nothing is left behind", x.net(p, p) + x.script(p) + x.of(p, 0), 1000);
                }
            }
        }
    }

    /** "X is SEED (0 .. 999999) at first"; LINES and CHIPS of each N, by the words */
    private static void draws() {
        for (int seed : new int[] {0, 1, 7, 123456, 999998, 999999}) {
            for (int n = 2; n <= 5; n++) {
                FiredChips x = Probe.chips(Probe.whole(n, 3), -9, -9, -9, -9, -9);
                due("draws", x.draws(seed), drawnLines(seed, n));
                long v = seed;
                for (int b = 1; b < n; b++) {
                    for (int a = 0; a < b; a++) {
                        v = (v * 1103515245L + 12345L) % 2147483648L;
                        due("drawn lines", x.net(a, b), v / 65536 % 3);
                    }
                }
                for (int p = 0; p < n; p++) {
                    v = (v * 1103515245L + 12345L) % 2147483648L;
                    due("drawn chips", x.of(p, 0), 1000 + v / 65536 % 7);
                }
            }
        }
    }

    /** "CHIPS of a POINT become v (-99 .. 99): what they were." */
    private static void sets() {
        for (int p = 0; p < 3; p++) {
            FiredChips x = new FiredChips();
            due("sets(99)", x.sets(p, 99), 0);
            due("sets(-99)", x.sets(p, -99), 99);
            due("sets(0)", x.sets(p, 0), -99);
            due("sets, others stay", x.rank(0), 10000);
        }
        // -2 and -3 are answers here, no refusals
        FiredChips x = Probe.triangle(-2, -3, -4);
        due("sets, was -2", x.sets(0, 0), -2);
        due("sets, was -3", x.sets(1, 0), -3);
        due("sets, was -4", x.sets(2, 0), -4);
        probe.countsDue("sets", x, 0, 0, 0);
    }

    /** "NO: they would be below -999, above 999. (It may answer below 0.)" */
    private static void adds() {
        probe.leaves("adds to 999", () -> Probe.triangle(0, 900, 0), Probe.call("adds", 1, 99), 999);
        refusedNo("adds to 1000", () -> Probe.triangle(0, 901, 0), Probe.call("adds", 1, 99));
        probe.leaves("adds to -999", () -> Probe.triangle(0, 0, -900), Probe.call("adds", 2, -99), -999);
        refusedNo("adds to -1000", () -> Probe.triangle(0, 0, -901), Probe.call("adds", 2, -99));
        probe.leaves("adds to -1", FiredChips::new, Probe.call("adds", 0, -1), -1);
        probe.leaves("adds to -2", FiredChips::new, Probe.call("adds", 0, -2), -2);
        probe.leaves("adds to -3", FiredChips::new, Probe.call("adds", 0, -3), -3);
        probe.leaves("adds to -4", FiredChips::new, Probe.call("adds", 0, -4), -4);
    }

    /** "NO: some POINT's CHIPS would be below -999, above 999." on path 0 = 1 - 2, 2 LINES and 1 */
    private static void fires() {
        probe.leaves("fires, just", () -> uneven(997, -996, 998), Probe.call("fires", 1), 1);
        refusedNo("fires, the sink above 999", () -> uneven(998, 0, 0), Probe.call("fires", 1));
        refusedNo("fires, itself below -999", () -> uneven(0, -997, 0), Probe.call("fires", 1));
        refusedNo("fires, the last above 999", () -> uneven(0, 0, 999), Probe.call("fires", 1));
        probe.leaves("fires, the sink, just", () -> uneven(-997, 997, 999), Probe.call("fires", 0), 1);
        refusedNo("fires, the sink below -999", () -> uneven(-998, 0, 0), Probe.call("fires", 0));
        refusedNo("fires, the sink's neighbour above 999", () -> uneven(0, 998, 0), Probe.call("fires", 0));
        probe.leaves("fires at the end, no lines", () -> Probe.chips(Probe.network(2), -999, 999), Probe.call("fires", 0), 1);
    }

    private static void borrows() {
        probe.leaves("borrows, just", () -> uneven(-997, 996, -998), Probe.call("borrows", 1), 1);
        refusedNo("borrows, the sink below -999", () -> uneven(-998, 0, 0), Probe.call("borrows", 1));
        refusedNo("borrows, itself above 999", () -> uneven(0, 997, 0), Probe.call("borrows", 1));
        refusedNo("borrows, the last below -999", () -> uneven(0, 0, -999), Probe.call("borrows", 1));
        probe.leaves("borrows, the sink, just", () -> uneven(997, -997, -999), Probe.call("borrows", 0), 1);
        refusedNo("borrows, the sink above 999", () -> uneven(998, 0, 0), Probe.call("borrows", 0));
        refusedNo("borrows, the sink's neighbour below -999", () -> uneven(0, -998, 0), Probe.call("borrows", 0));
        probe.leaves("borrows at the end, no lines", () -> Probe.chips(Probe.network(2), -999, 999), Probe.call("borrows", 1), 1);
    }

    private static FiredChips uneven(int... chips) {
        return Probe.chips(Probe.network(3, 0, 1, 2, 1, 2, 1), chips);
    }

    /** "how many of all POINTS have another number of CHIPS then", "NO, likewise (of what comes at last)" */
    private static void together() {
        for (int p = 0; p < 3; p++) {
            int alone = 1 << p;
            FiredChips x = uneven(0, 0, 0);
            FiredChips y = uneven(0, 0, 0);
            due("together, one alone", x.together(alone), p == 1 ? 3 : 2);
            y.fires(p);
            due("together, one alone, as fires", x.digest(), y.digest());
        }
        probe.leaves("together, the sink too", () -> uneven(0, 0, 0), Probe.call("together", 3), 2);
        probe.leaves("together, all at the ends", () -> uneven(999, -999, 999), Probe.call("together", 7), 0);
        // 1 and 2 together give 2 to the sink, and 2 stays as it is
        probe.leaves("together, 999 between", () -> uneven(997, 0, 999), Probe.call("together", 6), 2);
        probe.leaves("together, -999 between", () -> uneven(997, -997, -999), Probe.call("together", 6), 2);
        refusedNo("together, the sink above 999", () -> uneven(998, 0, 0), Probe.call("together", 6));
        refusedNo("together, below -999", () -> uneven(0, -998, 0), Probe.call("together", 6));
        // 1 and 3 give 2 each to 2, which has as many lines from both
        FiredChips x = Probe.network(4, 0, 1, 1, 1, 2, 2, 2, 3, 2);
        due("together, some unlike", x.together(10), 4);
        probe.chipsDue("together", x, 1, -3, 4, -2);
        due("together, all of 5", Probe.whole(5, 3).together(31), 0);
        due("together, all but the sink", Probe.whole(5, 3).together(30), 5);
    }

    /** "NO: .. a POINT but THE SINK has CHIPS below 0, THE SINK's would be above 999." */
    private static void settles() {
        probe.leaves("settles, the sink just 999", () -> Probe.triangle(998, 2, 0), FiredChips::settles, 1);
        refusedNo("settles, the sink above 999", () -> Probe.triangle(999, 2, 0), FiredChips::settles);
        probe.leaves("settles, the sink at 999, stable", () -> Probe.triangle(999, 1, 1), FiredChips::settles, 0);
        refusedNo("settles, debt of the first", () -> Probe.triangle(0, -1, 9), FiredChips::settles);
        refusedNo("settles, debt of the last", () -> Probe.triangle(0, 9, -1), FiredChips::settles);
        probe.leaves("settles, the sink's debt", () -> Probe.triangle(-999, 1, 0), FiredChips::settles, 0);
        probe.leaves("settles, most", () -> Probe.triangle(-999, 999, 999), FiredChips::settles, 1996);
        Supplier<FiredChips> much = () -> Probe.chips(Probe.whole(5, 3), 0, 999, 999, 0, 0);
        refusedNo("settles, far above 999", much, FiredChips::settles);
        refusedNo("settles, not joined though stable", () -> Probe.network(5), FiredChips::settles);
        // between, a point has more than 999
        FiredChips x = Probe.chips(Probe.path(3, 3), -999, 999, 999);
        due("settles, above 999 between", x.settles() > 0 ? 1 : 0, 1);
        due("settles, above 999 between", x.stable(), 1);
    }

    /** "0 at first, and behind points() or n; nothing else changes it but back()" */
    private static void script() {
        Supplier<FiredChips> make = () -> {
            FiredChips x = Probe.triangle(-500, 4, 1);
            x.settles();
            return x;
        };
        String[][] calls = {{"lines", "0", "1", "3"}, {"draws", "5"}, {"sets", "1", "0"}, {"adds", "1", "9"}, {"fires", "1"},
            {"borrows", "2"}, {"together", "6"}, {"keeps", "0"}, {"clear"}, {"won"}, {"order"}, {"recurrent", "1"},
            {"identity", "1"}, {"reduced", "2", "1"}, {"rank", "2"}, {"digest"}};
        for (String[] words : calls) {
            int[] a = new int[words.length - 1];
            for (int i = 0; i < a.length; i++) {
                a[i] = Integer.parseInt(words[i + 1]);
            }
            FiredChips x = make.get();
            Probe.call(words[0], a).applyAsLong(x);
            scriptDue("behind " + words[0], x, 0, 2, 1);
        }
        FiredChips x = make.get();
        Probe.reads(x, "l0 1 3;c1 2 3;f0;b1;a0 9;");
        scriptDue("behind orders but n and z", x, 0, 2, 1);
        Probe.reads(x, "l0 1 1;c0 2 0;z;c0 0-1;z;");
        scriptDue("behind orders that are stopped", x, 0, 2, 1);
        Probe.reads(x, "l0 1 1;c0 2 0;z;c0 0-1;");
        scriptDue("behind z", x, 0, 1, 0);
        Probe.reads(x, "c0 0 2;z;c0 1 0;z;");
        scriptDue("behind z and z, the last", x, 0, 0, 0);
        x.back();
        scriptDue("behind back()", x, 0, 1, 0);
        Probe.reads(x, "n3;");
        scriptDue("behind n", x, 0, 0, 0);
        x.back();
        x.points(3);
        scriptDue("behind points()", x, 0, 0, 0);
        FiredChips refused = make.get();
        refused.sets(2, -1);
        refused.settles();
        scriptDue("behind a refused one", refused, 0, 2, 1);
        FiredChips again = make.get();
        again.settles();
        scriptDue("behind one that had nothing to do", again, 0, 0, 0);
    }

    private static void scriptDue(String where, FiredChips x, int... script) {
        for (int p = 0; p < script.length; p++) {
            due("script(" + p + ") " + where, x.script(p), script[p]);
        }
    }

    /** "h = 2293; then h = 31 h + v for each v", past the end of a long many times */
    private static void digest() {
        for (int n = 2; n <= 5; n++) {
            FiredChips x = Probe.chips(Probe.path(n, 2), -900, 9, 8, 7, 6);
            x.settles();
            x.keeps(2);
            x.keeps(0);
            x.sets(1, -3);
            x.settles();
            x.fires(5);
            x.type(7);
            long h = 2293;
            for (int what = 0; what <= 6; what++) {
                h = 31 * h + x.told(what);
            }
            for (int b = 1; b < n; b++) {
                for (int a = 0; a < b; a++) {
                    h = 31 * h + x.net(a, b);
                }
            }
            for (int p = 0; p < n; p++) {
                for (int what = 0; what <= 2; what++) {
                    h = 31 * h + x.of(p, what);
                }
                h = 31 * h + x.script(p);
            }
            long[] rest = {x.joined(), x.stable(), x.trees(), x.rank(0), x.rank(1)};
            for (long v : rest) {
                h = 31 * h + v;
            }
            due("digest", x.digest(), h);
            due("digest again", x.digest(), h);
        }
        FiredChips first = new FiredChips();
        long[] v = {0, 0, 0, 0, 3, 0, 0, 0, 0, 0, 1000, 0, 0, 0, 1000, 0, 0, 0, 1000, 0, 0, 0, 0, 1, 0, 10000, 8};
        long h = 2293;
        for (long each : v) {
            h = 31 * h + each;
        }
        due("digest at first", first.digest(), h);
    }
}
