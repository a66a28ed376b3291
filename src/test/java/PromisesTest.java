import java.util.Objects;

/** One method a promise: ordinary inputs, the edges that the document names, wrong inputs. */
public final class PromisesTest {
    private static final int NONE = -1, BAD = -2, NO = -3, FULL = -4;
    private static int wrong = 0;

    public static void main(String[] args) {
        newObject();
        points();
        lines();
        draws();
        net();
        joined();
        sets();
        adds();
        fires();
        borrows();
        together();
        settles();
        script();
        of();
        stable();
        burns();
        trees();
        parts();
        identity();
        recurrent();
        order();
        heaps();
        rank();
        reduced();
        won();
        keeps();
        equal();
        way();
        type();
        clear();
        reads();
        faults();
        stoppedOrders();
        back();
        backOverEach();
        told();
        digest();
        System.out.println(wrong == 0 ? "PromisesTest: all as due" : "PromisesTest: " + wrong + " wrong");
        if (wrong != 0) {
            System.exit(1);
        }
    }

    private static void due(String call, long got, long want) {
        if (!Objects.equals(got, want)) {
            wrong++;
            System.out.println(call + " answered " + got + ", due is " + want);
        }
    }

    /** A network by its lines, three numbers each: a, b, k. */
    private static FiredChips network(int n, int... lines) {
        FiredChips x = new FiredChips();
        x.points(n);
        for (int i = 0; i + 2 < lines.length; i += 3) {
            x.lines(lines[i], lines[i + 1], lines[i + 2]);
        }
        return x;
    }

    private static FiredChips triangle() {
        return network(3, 0, 1, 1, 0, 2, 1, 1, 2, 1);
    }

    private static FiredChips whole(int n, int k) {
        FiredChips x = network(n);
        for (int b = 1; b < n; b++) {
            for (int a = 0; a < b; a++) {
                x.lines(a, b, k);
            }
        }
        return x;
    }

    private static void chips(FiredChips x, int... v) {
        for (int p = 0; p < v.length; p++) {
            x.sets(p, 0);
            for (int left = v[p]; left != 0; left -= Math.max(-99, Math.min(99, left))) {
                x.adds(p, Math.max(-99, Math.min(99, left)));
            }
        }
    }

    private static void chipsDue(String where, FiredChips x, int... v) {
        for (int p = 0; p < v.length; p++) {
            due(where + ": of(" + p + ", 0)", x.of(p, 0), v[p] + 1000);
        }
    }

    private static int text(FiredChips x, String words) {
        x.clear();
        for (char c : words.toCharArray()) {
            x.type(c);
        }
        return x.reads();
    }

    private static void refusedDue(String where, FiredChips x, int bad, int no, int full) {
        due(where + ": told(0)", x.told(0), bad);
        due(where + ": told(1)", x.told(1), no);
        due(where + ": told(2)", x.told(2), full);
    }

    private static void newObject() {
        FiredChips x = new FiredChips();
        refusedDue("new", x, 0, 0, 0);
        due("new told(3)", x.told(3), 0);
        due("new told(4)", x.told(4), 3);
        due("new told(5)", x.told(5), 0);
        due("new told(6)", x.told(6), 0);
        for (int p = 0; p < 3; p++) {
            due("new of", x.of(p, 0), 1000);
            due("new script", x.script(p), 0);
            due("new valence", x.net(p, p), 0);
        }
        due("new back", x.back(), NO);
    }

    private static void points() {
        FiredChips x = triangle();
        chips(x, 1, 5, 1);
        x.keeps(1);
        x.settles();
        due("points(5)", x.points(5), 3);
        due("points: N", x.told(4), 5);
        due("points: kept stay", x.told(5), 2);
        for (int p = 0; p < 5; p++) {
            due("points: no lines", x.net(p, p), 0);
            due("points: no chips", x.of(p, 0), 1000);
            due("points: no script", x.script(p), 0);
        }
        due("points(2)", x.points(2), 5);
        due("points(2) again", x.points(2), 2);
        due("points: states", x.told(6), 5);
        due("points(1)", x.points(1), BAD);
        due("points(6)", x.points(6), BAD);
        due("points(least)", x.points(Integer.MIN_VALUE), BAD);
        due("points(most)", x.points(Integer.MAX_VALUE), BAD);
        due("points: N stays", x.told(4), 2);
        refusedDue("points", x, 4, 0, 0);
    }

    private static void lines() {
        FiredChips x = new FiredChips();
        due("lines(2, 0, 3)", x.lines(2, 0, 3), 0);
        due("lines(0, 2, 1)", x.lines(0, 2, 1), 3);
        due("lines(0, 2, 0)", x.lines(0, 2, 0), 1);
        due("lines: states", x.told(6), 3);
        int[][] bad = {{0, 0, 1}, {-1, 0, 1}, {0, 3, 1}, {3, 0, 1}, {0, 1, -1}, {0, 1, 4}, {0, -1, 1},
            {Integer.MAX_VALUE, 1, 1}, {1, Integer.MIN_VALUE, 1}, {0, 1, Integer.MIN_VALUE}};
        for (int[] b : bad) {
            due("bad lines", x.lines(b[0], b[1], b[2]), BAD);
        }
        refusedDue("lines", x, bad.length, 0, 0);
        due("lines: states as before", x.told(6), 3);
    }

    private static void draws() {
        FiredChips x = new FiredChips();
        // 12345 by 65536 is 0; then by hand: X = 12345, 1406932606, 654583775, ..
        due("draws(0)", x.draws(0), 21468 % 3 + 9988 % 3);
        due("draws: 0 1", x.net(0, 1), 0);
        due("draws: 0 2", x.net(0, 2), 21468 % 3);
        due("draws: 1 2", x.net(1, 2), 9988 % 3);
        long v = 654583775L;
        for (int p = 0; p < 3; p++) {
            v = (v * 1103515245L + 12345L) % 2147483648L;
            due("draws: chips", x.of(p, 0), 1000 + v / 65536 % 7);
        }
        due("draws: state", x.told(6), 1);
        due("draws(-1)", x.draws(-1), BAD);
        due("draws(1000000)", x.draws(1000000), BAD);
        due("draws(999999) answers", x.draws(999999) >= 0 ? 1 : 0, 1);
        refusedDue("draws", x, 2, 0, 0);
        FiredChips y = triangle();
        chips(y, 0, 2, 0);
        y.settles();
        y.draws(5);
        due("draws leaves script", y.script(1), 1);
    }

    private static void net() {
        FiredChips x = network(4, 0, 1, 1, 0, 2, 2, 1, 2, 3);
        due("net(0, 0)", x.net(0, 0), 3);
        due("net(1, 1)", x.net(1, 1), 4);
        due("net(2, 2)", x.net(2, 2), 5);
        due("net(3, 3)", x.net(3, 3), 0);
        due("net(2, 1)", x.net(2, 1), 3);
        due("net(1, 3)", x.net(1, 3), 0);
        due("net(4, 0)", x.net(4, 0), BAD);
        due("net(0, 4)", x.net(0, 4), BAD);
        due("net(-1, 0)", x.net(-1, 0), BAD);
        due("net(0, -1)", x.net(0, -1), BAD);
        due("net(4, 4)", x.net(4, 4), BAD);
        refusedDue("net", x, 5, 0, 0);
    }

    private static void joined() {
        due("joined, none", new FiredChips().joined(), 0);
        due("joined, triangle", triangle().joined(), 1);
        due("joined, far from the sink", network(4, 1, 2, 1, 2, 3, 1).joined(), 0);
        due("joined, a way backwards", network(5, 0, 4, 1, 4, 3, 1, 3, 2, 1, 2, 1, 1).joined(), 1);
        due("joined, one left", network(5, 0, 4, 1, 4, 3, 1, 3, 2, 1).joined(), 0);
    }

    private static void sets() {
        FiredChips x = new FiredChips();
        due("sets(0, -99)", x.sets(0, -99), 0);
        due("sets(0, 99)", x.sets(0, 99), -99);
        due("sets(0, 0)", x.sets(0, 0), 99);
        due("sets(2, 0)", x.sets(2, 0), 0);
        due("sets: states", x.told(6), 4);
        due("sets(0, 100)", x.sets(0, 100), BAD);
        due("sets(0, -100)", x.sets(0, -100), BAD);
        due("sets(0, least)", x.sets(0, Integer.MIN_VALUE), BAD);
        due("sets(3, 0)", x.sets(3, 0), BAD);
        due("sets(-1, 0)", x.sets(-1, 0), BAD);
        refusedDue("sets", x, 5, 0, 0);
    }

    private static void adds() {
        FiredChips x = new FiredChips();
        due("adds(1, -3)", x.adds(1, -3), -3);
        refusedDue("adds below 0", x, 0, 0, 0);
        due("adds(1, 1)", x.adds(1, 1), -2);
        due("adds(1, 0)", x.adds(1, 0), -2);
        chips(x, 0, 999, -999);
        due("adds to 1000", x.adds(1, 1), NO);
        due("adds to -1000", x.adds(2, -1), NO);
        due("adds 0 at 999", x.adds(1, 0), 999);
        due("adds back", x.adds(1, -99), 900);
        due("adds up to 999", x.adds(1, 99), 999);
        due("adds(0, 100)", x.adds(0, 100), BAD);
        due("adds(0, -100)", x.adds(0, -100), BAD);
        due("adds(1, 100), BAD first", x.adds(1, 100), BAD);
        due("adds(0, least)", x.adds(0, Integer.MIN_VALUE), BAD);
        due("adds(3, 0)", x.adds(3, 0), BAD);
        due("adds(-1, 0)", x.adds(-1, 0), BAD);
        refusedDue("adds", x, 6, 2, 0);
    }

    private static void fires() {
        FiredChips x = network(3, 0, 1, 2, 1, 2, 3);
        due("fires(1)", x.fires(1), 1);
        chipsDue("fires", x, 2, -5, 3);
        due("fires(0)", x.fires(0), 1);
        chipsDue("fires", x, 0, -3, 3);
        due("fires(3)", x.fires(3), BAD);
        due("fires(-1)", x.fires(-1), BAD);
        due("fires(33)", x.fires(33), BAD);
        chips(x, 998, 0, 0);
        due("fires: sink above 999", x.fires(1), NO);
        chips(x, 0, -995, 0);
        due("fires: below -999", x.fires(1), NO);
        chips(x, 0, -994, 996);
        due("fires: edges", x.fires(1), 1);
        chipsDue("fires", x, 2, -999, 999);
        refusedDue("fires", x, 3, 2, 0);
        FiredChips y = new FiredChips();
        due("fires without lines", y.fires(2), 1);
        due("fires leaves a state", y.told(6), 1);
    }

    private static void borrows() {
        FiredChips x = network(3, 0, 1, 2, 1, 2, 3);
        due("borrows(1)", x.borrows(1), 1);
        chipsDue("borrows", x, -2, 5, -3);
        due("borrows(3)", x.borrows(3), BAD);
        due("borrows(-1)", x.borrows(-1), BAD);
        chips(x, -998, 0, 0);
        due("borrows: sink below -999", x.borrows(1), NO);
        chips(x, 0, 995, 0);
        due("borrows: above 999", x.borrows(1), NO);
        chips(x, -997, 994, -996);
        due("borrows: edges", x.borrows(1), 1);
        chipsDue("borrows", x, -999, 999, -999);
        refusedDue("borrows", x, 2, 2, 0);
    }

    private static void together() {
        FiredChips x = network(4, 0, 1, 1, 1, 2, 2, 2, 3, 3);
        due("together(12)", x.together(12), 2);
        chipsDue("together", x, 0, 2, -2, 0);
        due("together(15)", x.together(15), 0);
        due("together(1)", x.together(1), 2);
        due("together(0)", x.together(0), BAD);
        due("together(16)", x.together(16), BAD);
        due("together(-1)", x.together(-1), BAD);
        // firing 2 alone would be too much for 3, but both together are not
        chips(x, 0, 0, 0, 999);
        due("together, at last fine", x.together(12), 2);
        due("together, not fine", x.together(4), NO);
        refusedDue("together", x, 3, 1, 0);
    }

    private static void settles() {
        FiredChips x = triangle();
        chips(x, 0, 4, 1);
        due("settles()", x.settles(), 3);
        chipsDue("settles", x, 3, 1, 1);
        due("settles() again", x.settles(), 0);
        chips(x, 999, 1, 1);
        due("settles, sink at 999", x.settles(), 0);
        chips(x, 998, 2, 0);
        due("settles, sink becomes 999", x.settles(), 1);
        chips(x, 999, 2, 0);
        due("settles, sink above 999", x.settles(), NO);
        chips(x, 0, 2, -1);
        due("settles, debt", x.settles(), NO);
        chips(x, -999, 999, 999);
        due("settles, much", x.settles(), 1996);
        chipsDue("settles, much", x, 997, 1, 1);
        x.lines(0, 1, 0);
        due("settles, still joined", x.settles(), 3);
        x.lines(0, 2, 0);
        due("settles, not joined", x.settles(), NO);
        refusedDue("settles", x, 0, 3, 0);
        FiredChips path = network(5, 0, 1, 1, 1, 2, 1, 2, 3, 1, 3, 4, 1);
        chips(path, -999, 0, 0, 0, 999);
        due("settles along a path", path.settles(), 9990 - 20);
    }

    private static void script() {
        FiredChips x = triangle();
        chips(x, 0, 4, 1);
        x.settles();
        due("script(0)", x.script(0), 0);
        due("script(1)", x.script(1), 2);
        due("script(2)", x.script(2), 1);
        x.sets(1, -1);
        x.settles();
        due("script behind a refused one", x.script(1), 2);
        x.fires(1);
        x.lines(0, 1, 3);
        x.draws(3);
        due("script behind other calls", x.script(1), 2);
        due("z", text(x, "l0 1 1;l1 2 1;c 0 0 0;z;"), 4);
        due("script behind z", x.script(1), 0);
        x.back();
        due("script behind back", x.script(1), 2);
        due("script(3)", x.script(3), BAD);
        due("script(-1)", x.script(-1), BAD);
        x.points(3);
        due("script behind points", x.script(1), 0);
        x.back();
        text(x, "n3;");
        due("script behind n", x.script(1), 0);
    }

    private static void of() {
        FiredChips x = network(4, 0, 1, 2, 1, 2, 1);
        chips(x, 99, 3, -4, 9);
        chipsDue("of", x, 99, 3, -4, 9);
        int[] valences = {2, 3, 1, 0};
        int[] full = {0, 1, 0, 0};
        for (int p = 0; p < 4; p++) {
            due("of valence", x.of(p, 1), valences[p]);
            due("of full", x.of(p, 2), full[p]);
        }
        x.sets(1, 2);
        due("of, not full", x.of(1, 2), 0);
        x.sets(2, 1);
        due("of, just full", x.of(2, 2), 1);
        due("of(4, 0)", x.of(4, 0), BAD);
        due("of(-1, 0)", x.of(-1, 0), BAD);
        due("of(0, 3)", x.of(0, 3), BAD);
        due("of(0, -1)", x.of(0, -1), BAD);
        refusedDue("of", x, 4, 0, 0);
    }

    private static void stable() {
        FiredChips x = triangle();
        due("stable, empty", x.stable(), 1);
        chips(x, 50, 1, 1);
        due("stable, sink is of no matter", x.stable(), 1);
        chips(x, -50, 1, 1);
        due("stable, sink's debt is of no matter", x.stable(), 1);
        chips(x, 0, 2, 0);
        due("stable, full", x.stable(), 0);
        chips(x, 0, 0, -1);
        due("stable, debt is no heap", x.stable(), 0);
        FiredChips y = new FiredChips();
        y.sets(1, 50);
        due("stable, no lines", y.stable(), 1);
    }

    private static void burns() {
        FiredChips x = network(4, 0, 1, 1, 1, 2, 1, 2, 3, 1);
        chips(x, 0, 1, 1, 0);
        due("burns(0)", x.burns(0), 15);
        due("burns(1)", x.burns(1), 3);
        due("burns(2)", x.burns(2), 1);
        chips(x, 0, 1, 0, 0);
        due("burns(0), some", x.burns(0), 3);
        due("burns(1), some", x.burns(1), 1);
        due("burns(2), some", x.burns(2), 0);
        chips(x, 0, 0, 0, 0);
        due("burns(0), sink alone", x.burns(0), 1);
        due("burns(1), sink alone", x.burns(1), 0);
        chips(x, 0, 2, 0, 0);
        due("burns(0), full", x.burns(0), NO);
        due("burns(3), BAD first", x.burns(3), BAD);
        due("burns(-1)", x.burns(-1), BAD);
        chips(x, 0, 0, -1, 0);
        due("burns(2), debt", x.burns(2), NO);
        refusedDue("burns", x, 2, 2, 0);
        FiredChips y = network(4, 1, 2, 1);
        due("burns, a point without lines burns", y.burns(0), 9);
        due("burns, waves there", y.burns(1), 1);
        due("burns, not all", y.burns(2), 0);
        FiredChips two = whole(3, 1);
        chips(two, 0, 1, 1);
        due("burns, two in one wave", two.burns(1), 1);
    }

    private static void trees() {
        due("trees, none", new FiredChips().trees(), 0);
        due("trees, triangle", triangle().trees(), 3);
        due("trees, 5 whole", whole(5, 1).trees(), 125);
        due("trees, 5 whole, 3 lines each", whole(5, 3).trees(), 10125);
        due("trees, not joined", network(4, 1, 2, 1, 2, 3, 1, 1, 3, 1).trees(), 0);
        due("trees, 2 points", network(2, 0, 1, 3).trees(), 3);
    }

    private static void parts() {
        FiredChips x = whole(5, 3);
        int[] due = {3, 15, 15, 15};
        due("parts(-1)", x.parts(-1), 4);
        for (int i = 0; i < 4; i++) {
            due("parts(" + i + ")", x.parts(i), due[i]);
        }
        due("parts(4)", x.parts(4), NONE);
        due("parts(most)", x.parts(Integer.MAX_VALUE), NONE);
        due("parts(-2)", x.parts(-2), BAD);
        due("parts(least)", x.parts(Integer.MIN_VALUE), BAD);
        FiredChips tree = network(3, 0, 1, 1, 1, 2, 1);
        due("parts, one heap alone", tree.parts(-1), 0);
        due("parts, first of none", tree.parts(0), NONE);
        FiredChips path = network(3, 0, 1, 2, 1, 2, 3);
        due("parts, 2 and 3 are one", path.parts(-1), 1);
        due("parts, 6", path.parts(0), 6);
        FiredChips y = new FiredChips();
        due("parts, not joined", y.parts(-1), NO);
        due("parts, BAD first", y.parts(-2), BAD);
        refusedDue("parts", y, 1, 1, 0);
    }

    private static void identity() {
        FiredChips x = whole(4, 1);
        x.sets(0, 7);
        int[] due = {0, 2, 2, 2};
        for (int p = 0; p < 4; p++) {
            due("identity", x.identity(p), due[p]);
        }
        due("identity(4)", x.identity(4), BAD);
        due("identity(-1)", x.identity(-1), BAD);
        FiredChips y = new FiredChips();
        due("identity, not joined", y.identity(0), NO);
        due("identity, BAD first", y.identity(3), BAD);
        refusedDue("identity", y, 1, 1, 0);
    }

    private static void recurrent() {
        FiredChips x = triangle();
        chips(x, 5, 0, 0);
        due("recurrent(0)", x.recurrent(0), 0);
        due("recurrent(1)", x.recurrent(1), 1);
        due("recurrent(2)", x.recurrent(2), 1);
        chips(x, 0, 1, 0);
        due("recurrent 1 0", x.recurrent(1) * 10 + x.recurrent(2), 10);
        chips(x, 0, 999, 999);
        due("recurrent, much", x.recurrent(1) * 10 + x.recurrent(2), 11);
        chipsDue("recurrent changes nothing", x, 0, 999, 999);
        due("recurrent(3)", x.recurrent(3), BAD);
        due("recurrent(-1)", x.recurrent(-1), BAD);
        x.sets(2, -1);
        due("recurrent, debt", x.recurrent(1), NO);
        due("recurrent, BAD first", x.recurrent(3), BAD);
        x.sets(2, 0);
        x.lines(1, 2, 0);
        x.lines(0, 2, 0);
        due("recurrent, not joined", x.recurrent(1), NO);
        refusedDue("recurrent", x, 3, 2, 0);
    }

    private static void order() {
        FiredChips x = network(2, 0, 1, 3);
        due("order of none", x.order(), 1);
        x.sets(1, 1);
        due("order of 1", x.order(), 3);
        x.sets(1, 3);
        due("order of 3", x.order(), 1);
        x.sets(1, -1);
        due("order, debt", x.order(), NO);
        x.sets(0, -9);
        x.sets(1, 5);
        due("order, sink's debt", x.order(), 3);
        x.lines(0, 1, 0);
        due("order, not joined", x.order(), NO);
        refusedDue("order", x, 0, 2, 0);
    }

    private static void heaps() {
        FiredChips x = whole(5, 3);
        due("heaps(0)", x.heaps(0), 12 * 12 * 12 * 12);
        due("heaps(1)", x.heaps(1), 10125);
        due("heaps(2)", x.heaps(2), BAD);
        due("heaps(-1)", x.heaps(-1), BAD);
        FiredChips y = new FiredChips();
        due("heaps, not joined", y.heaps(1), NO);
        due("heaps, BAD first", y.heaps(2), BAD);
        refusedDue("heaps", y, 1, 1, 0);
    }

    private static void rank() {
        FiredChips x = new FiredChips();
        x.sets(0, -7);
        due("rank(0)", x.rank(0), 9993);
        due("rank(1)", x.rank(1), 8);
        due("rank(2), not joined", x.rank(2), NO);
        due("rank(3), not joined", x.rank(3), NO);
        due("rank(4)", x.rank(4), BAD);
        due("rank(-1)", x.rank(-1), BAD);
        refusedDue("rank", x, 2, 2, 0);
        FiredChips tree = network(5, 0, 1, 1, 0, 2, 1, 0, 3, 1, 3, 4, 1);
        chips(tree, -80, 90, 1, 0, 1);
        due("rank on a tree", tree.rank(2), 13);
        due("rank of the dual there", tree.rank(3), 0);
        tree.sets(2, 2);
        due("rank, 13 chips", tree.rank(2), NO);
        FiredChips k5 = whole(5, 1);
        chips(k5, 1, 1, 1, 1, 1);
        due("rank, one chip each", k5.rank(2), 3);
        due("rank, dual alike", k5.rank(3), 3);
        chips(k5, 2, 2, 2, 2, 2);
        due("rank of the canonical row: genus less 1", k5.rank(2), 6);
        due("rank of its dual", k5.rank(3), 1);
        chips(k5, 5, 0, 0, 0, 0);
        due("rank, 5 on one", k5.rank(2), 3);
        chips(k5, 0, 0, 0, 0, -2);
        due("rank of debts", k5.rank(2), 0);
        due("rank, dual of 12", k5.rank(3), 7);
        chips(k5, 0, 0, 0, 0, -3);
        due("rank, dual of 13", k5.rank(3), NO);
        due("rank, no matter there", k5.rank(2), 0);
    }

    private static void reduced() {
        FiredChips x = triangle();
        chips(x, 0, 5, -2);
        due("reduced(0, 0)", x.reduced(0, 0), 10002);
        due("reduced(0, 1)", x.reduced(0, 1), 10001);
        due("reduced(0, 2)", x.reduced(0, 2), 10000);
        chips(x, -999, -999, -999);
        due("reduced, debts", x.reduced(1, 1), 10000 - 2997);
        due("reduced, debts elsewhere", x.reduced(1, 0), 10000);
        chipsDue("reduced changes nothing", x, -999, -999, -999);
        due("reduced(3, 0)", x.reduced(3, 0), BAD);
        due("reduced(0, 3)", x.reduced(0, 3), BAD);
        due("reduced(-1, 0)", x.reduced(-1, 0), BAD);
        due("reduced(0, -1)", x.reduced(0, -1), BAD);
        FiredChips y = new FiredChips();
        due("reduced, not joined", y.reduced(0, 0), NO);
        due("reduced, BAD first", y.reduced(0, 3), BAD);
        refusedDue("reduced", y, 1, 1, 0);
    }

    private static void won() {
        FiredChips x = triangle();
        chips(x, 2, -1, 0);
        due("won, degree 1 of genus 1", x.won(), 1);
        chips(x, 1, -1, 0);
        due("won, degree 0, not none", x.won(), 0);
        chips(x, 2, -1, -1);
        due("won, degree 0, none", x.won(), 1);
        chips(x, 0, 0, -1);
        due("won, degree below 0", x.won(), 0);
        due("won, not joined", new FiredChips().won(), NO);
        FiredChips y = new FiredChips();
        y.won();
        refusedDue("won", y, 0, 1, 0);
    }

    private static void keeps() {
        FiredChips x = triangle();
        chips(x, -2, -3, -4);
        due("keeps(0)", x.keeps(0), 9991);
        due("keeps(2)", x.keeps(2), 9991);
        due("keeps: bits", x.told(5), 5);
        x.sets(0, 3);
        due("keeps(2) again", x.keeps(2), 9996);
        due("keeps: the new row", x.equal(2), 1);
        due("keeps: the old row", x.equal(0), 0);
        x.back();
        due("keeps: back", x.equal(2), 0);
        due("keeps(3)", x.keeps(3), BAD);
        due("keeps(-1)", x.keeps(-1), BAD);
        refusedDue("keeps", x, 2, 0, 0);
        FiredChips y = new FiredChips();
        due("keeps, not joined", y.keeps(1), 10000);
    }

    private static void equal() {
        FiredChips x = triangle();
        due("equal, none kept", x.equal(0), NO);
        chips(x, 3, 0, 0);
        x.keeps(0);
        chips(x, 0, 3, 0);
        due("equal, 3 elsewhere", x.equal(0), 1);
        chips(x, 1, 1, 1);
        due("equal, one each", x.equal(0), 1);
        chips(x, 2, 1, 0);
        due("equal, not", x.equal(0), 0);
        chips(x, 4, 0, 0);
        due("equal, more", x.equal(0), 0);
        due("equal(3)", x.equal(3), BAD);
        due("equal(-1)", x.equal(-1), BAD);
        x.points(4);
        due("equal, another N", x.equal(0), NO);
        x.points(3);
        due("equal, not joined", x.equal(0), NO);
        x.lines(0, 1, 1);
        x.lines(1, 2, 1);
        x.sets(2, 3);
        due("equal, other lines", x.equal(0), 1);
        refusedDue("equal", x, 2, 3, 0);
    }

    private static void way() {
        FiredChips x = network(5, 0, 1, 1, 1, 2, 1, 2, 3, 1, 3, 4, 1);
        chips(x, -999, -999, 0, 999, 999);
        x.keeps(2);
        chips(x, 999, 999, 0, -999, -999);
        int[] due = {0, -1998, -5994, -9990, -11988};
        for (int p = 0; p < 5; p++) {
            due("way(2, " + p + ")", x.way(2, p), 100000 + due[p]);
        }
        x.adds(2, 1);
        due("way, not equal", x.way(2, 0), NONE);
        due("way, none kept", x.way(0, 0), NO);
        due("way(3, 0)", x.way(3, 0), BAD);
        due("way(-1, 0)", x.way(-1, 0), BAD);
        due("way(2, 5)", x.way(2, 5), BAD);
        due("way(2, -1)", x.way(2, -1), BAD);
        due("way(0, 5), BAD first", x.way(0, 5), BAD);
        x.lines(0, 1, 0);
        due("way, not joined", x.way(2, 0), NO);
        refusedDue("way", x, 5, 2, 0);
    }

    private static void type() {
        FiredChips x = new FiredChips();
        for (int i = 1; i <= 120; i++) {
            due("type", x.type(i % 128), i);
        }
        due("type, 120 are there", x.type(32), FULL);
        due("type, BAD first", x.type(128), BAD);
        due("type(-1)", x.type(-1), BAD);
        refusedDue("type", x, 2, 0, 1);
        due("type: bytes", x.told(3), 120);
        due("type leaves no state", x.told(6), 0);
    }

    private static void clear() {
        FiredChips x = new FiredChips();
        x.type(65);
        x.type(0);
        due("clear()", x.clear(), 2);
        due("clear() again", x.clear(), 0);
        due("clear: bytes", x.told(3), 0);
        due("clear leaves no state", x.told(6), 0);
        due("type behind clear", x.type(127), 1);
    }

    private static void reads() {
        FiredChips x = new FiredChips();
        due("reads", text(x, "l0 1 2;l1 2 1;c-1 5-0;z;f1;b2;a2-7;"), 7);
        // c: -1 5 0; z: point 1 fires, 1 2 1, point 2 fires: 1 3 0, point 1: 3 0 1, point 2: 3 1 0
        chipsDue("reads", x, 5, -3, -5);
        due("reads: script", x.script(1) * 10 + x.script(2), 22);
        due("reads: one state", x.told(6), 1);
        due("reads: text stays", x.told(3), 35);
        due("reads again: as it stands", x.reads(), 7);
        due("reads: blanks", text(x, "  n  003 ; l 0 1 1 ;c 1 2   -3;   "), 3);
        chipsDue("reads: blanks", x, 1, 2, -3);
        due("reads: n then c", text(x, "n2;c 1 2;n5;c1-2 3-4 5;"), 4);
        chipsDue("reads: n then c", x, 1, -2, 3, -4, 5);
        x.points(4);
        due("reads: c of N points", text(x, "c1 2 3 4;"), 1);
        x.points(5);
        due("reads: big numbers", text(x, "c999-999 0 00 000;"), 1);
        chipsDue("reads: big numbers", x, 999, -999, 0, 0, 0);
        due("reads: states", x.told(6), 5);
        x.clear();
        String many = "f0;f0;f0;f0;f0;f0;f0;f0;f0;f0;f0;f0;f0;f0;f0;f0;f0;f0;f0;f0;f0;f0;f0;f0;f0;f0;f0;f0;f0;f0;"
            + "f0;f0;f0;f0;f0;f0;f0;f0;f0;f0;";
        due("reads: 120 bytes", text(x, many), 40);
        refusedDue("reads", x, 0, 0, 0);
    }

    private static void faults() {
        Object[][] rows = {
            {"", 0}, {" ", 1}, {"   ", 3}, {";", 0}, {" x", 1}, {"Z;", 0}, {"z", 1}, {"z ", 2}, {"z;;", 2}, {"z;z", 3},
            {"z 1;", 2}, {"z; z;q", 5}, {"n", 1}, {"n;", 1}, {"n 6;", 2}, {"n1;", 1}, {"n 12;", 2}, {"n-3;", 1},
            {"n2", 2}, {"n 6", 2}, {"n 6x", 2}, {"n3 3;", 3}, {"n0003;", 4}, {"n002;c1 2 3;", 10}, {"n999;", 1},
            {"l0 1;", 4}, {"l0 1 1 1;", 7}, {"l01 1;", 5}, {"l0 1-1;", 4}, {"l-0 1 1;", 1}, {"l0 1 1234;", 8},
            {"l0 1 1", 6}, {"c1 2;", 4}, {"c1 2 3 4;", 7}, {"c1 2 3-4;", 6}, {"c1 2 - 3;", 6}, {"c1 2 -", 6},
            {"c1 2 --3;", 6}, {"c1 2 -1000;", 9}, {"c1 2 +3;", 5}, {"c1\t2 3;", 2}, {"c1,2,3;", 2}, {"f;", 1},
            {"f-1;", 1}, {"f1 1;", 3}, {"b", 1}, {"b1", 2}, {"a1;", 2}, {"a-1 1;", 1}, {"a1 2-3;", 4}, {"a1 -2 3;", 6},
            {"a1 - 3;", 4}, {"a 1", 3}, {"f9;n;", 4}, {"f 1 0;", 4}, {"f1;\0", 3}, {"c123-123 1234;", 12},
        };
        for (Object[] row : rows) {
            FiredChips x = new FiredChips();
            due("fault of '" + row[0] + "'", text(x, (String) row[0]), -10 - (Integer) row[1]);
            refusedDue("a fault", x, 0, 0, 0);
            due("a fault: states", x.told(6), 0);
        }
        FiredChips x = new FiredChips();
        x.sets(1, 5);
        text(x, "n5;c1 2 3 4 5;x");
        due("a fault: N", x.told(4), 3);
        chipsDue("a fault", x, 0, 5, 0);
        due("FAULT ahead of refused orders", text(x, "f9;x"), -13);
    }

    private static void stoppedOrders() {
        FiredChips x = triangle();
        chips(x, 0, 3, 0);
        x.settles();
        long before = x.digest();
        String[] refused = {"f3;", "b 3;", "l0 0 1;", "l0 3 1;", "l3 0 1;", "l0 1 4;", "a3 1;", "a1 100;", "a1-100;",
            "c0 0-1;z;", "l0 1 0;l0 2 0;z;", "c 999 2 0;z;", "c999 2 2;f1;", "c-999 0 0;f0;", "c-999 0 0;b1;",
            "c999 0 0;b0;", "c 0 999 0;a 1 1;", "c0 0-999;a2-1;", "n2;f2;"};
        for (String words : refused) {
            int orders = words.length() - words.replace(";", "").length();
            due("stopped '" + words + "'", text(x, words), -1000 - (orders - 1));
            x.clear();
            due("nothing is done by '" + words + "'", x.digest(), before);
        }
    }

    private static void back() {
        FiredChips x = new FiredChips();
        due("back, none", x.back(), NO);
        for (int v = 1; v <= 7; v++) {
            x.sets(1, v);
        }
        due("back: 5 at most", x.told(6), 5);
        for (int left = 4; left >= 0; left--) {
            due("back()", x.back(), left);
            due("back: chips", x.of(1, 0), 1000 + 2 + left);
        }
        due("back, none left", x.back(), NO);
        due("back: older are lost", x.of(1, 0), 1002);
        refusedDue("back", x, 0, 2, 0);
        FiredChips y = triangle();
        chips(y, 0, 4, 1);
        y.keeps(0);
        y.settles();
        y.type(65);
        y.points(2);
        y.keeps(1);
        due("back over keeps", y.back(), 4);
        due("back: bits", y.told(5), 1);
        due("back over points", y.back(), 3);
        due("back: N", y.told(4), 3);
        due("back: lines", y.trees(), 3);
        due("back: script", y.script(1), 2);
        due("back: text stays", y.told(3), 1);
        due("back over settles", y.back(), 2);
        due("back: script of old", y.script(1), 0);
        y.back();
        due("back: kept of old", y.told(5), 0);
        FiredChips z = new FiredChips();
        z.fires(9);
        z.type(65);
        z.clear();
        z.reads();
        z.trees();
        due("no states by what is refused or no S", z.told(6), 0);
    }

    private static void backOverEach() {
        for (int i = 0; i < 11; i++) {
            FiredChips x = network(3, 0, 1, 2, 1, 2, 1);
            chips(x, 3, 4, 5);
            x.settles();
            x.sets(1, 7);
            long before = x.digest() - stateCountPart(x.told(6));
            switch (i) {
                case 0: x.points(4); break;
                case 1: x.lines(0, 2, 3); break;
                case 2: x.draws(77); break;
                case 3: x.sets(0, 9); break;
                case 4: x.adds(0, 9); break;
                case 5: x.fires(1); break;
                case 6: x.borrows(1); break;
                case 7: x.together(6); break;
                case 8: x.settles(); break;
                case 9: x.keeps(2); break;
                default: text(x, "n2;l0 1 1;c 0 1;z;");
            }
            due("a state is left by call " + i, x.told(6), 5);
            x.back();
            x.clear();
            due("back over call " + i, x.digest() - stateCountPart(x.told(6)), before);
        }
    }

    /** What told(6) adds to the digest of 3 points: 3 pairs, 12 numbers of points, 5 more come behind it. */
    private static long stateCountPart(int states) {
        long part = states;
        for (int i = 0; i < 3 + 12 + 5; i++) {
            part *= 31;
        }
        return part;
    }

    private static void told() {
        FiredChips x = new FiredChips();
        due("told(7)", x.told(7), BAD);
        due("told(-1)", x.told(-1), BAD);
        due("told(0)", x.told(0), 2);
        x.back();
        due("told(1)", x.told(1), 1);
        due("told(2)", x.told(2), 0);
        due("told(3)", x.told(3), 0);
        due("told(4)", x.told(4), 3);
        due("told(5)", x.told(5), 0);
        due("told(6)", x.told(6), 0);
    }

    private static void digest() {
        FiredChips x = network(2, 0, 1, 3);
        chips(x, -5, 4);
        x.back();
        x.keeps(1);
        x.type(9);
        x.told(9);
        x.settles();
        long[] v = {1, 0, 0, 1, 2, 2, 5, 3, 1000 - 5, 3, 0, 0, 1000, 3, 0, 0, 1, 1, 3, 10000 - 5, 3 - 2 + 1 + 10};
        long h = 2293;
        for (long each : v) {
            h = 31 * h + each;
        }
        due("digest()", x.digest(), h);
        due("digest() again", x.digest(), h);
    }
}
