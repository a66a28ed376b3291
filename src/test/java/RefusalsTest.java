import java.util.Arrays;
import java.util.function.Supplier;

/**
 * "Refused (a question, too), changing nothing but how often, the first of: BAD, NO": each number of each call just
 * below and just above what the document takes, and far out, for each N; and the least and the greatest that is taken.
 */
public final class RefusalsTest {
    private static final Probe probe = new Probe("RefusalsTest");
    private static final int FAR = Integer.MAX_VALUE, POINT = -1, SET = -2;

    /** A call's numbers: name, then for each number the least and the greatest (POINT: 0 to N less 1; SET: bits). */
    private static final Object[][] CALLS = {
        {"points", 2, 5}, {"lines", POINT, POINT, POINT, POINT, 0, 3}, {"draws", 0, 999999}, {"net", POINT, POINT, POINT, POINT},
        {"sets", POINT, POINT, -99, 99}, {"adds", POINT, POINT, -99, 99}, {"fires", POINT, POINT}, {"borrows", POINT, POINT},
        {"together", SET, SET}, {"script", POINT, POINT}, {"of", POINT, POINT, 0, 2}, {"burns", 0, 2}, {"parts", -1, FAR},
        {"identity", POINT, POINT}, {"recurrent", POINT, POINT}, {"heaps", 0, 1}, {"rank", 0, 3},
        {"reduced", POINT, POINT, POINT, POINT}, {"keeps", 0, 2}, {"equal", 0, 2}, {"way", 0, 2, POINT, POINT},
        {"type", 0, 127}, {"told", 0, 6},
    };

    public static void main(String[] args) {
        for (int n = 2; n <= 5; n++) {
            for (Object[] call : CALLS) {
                numbersOf(call, n);
            }
            linesOfOnePoint(n);
        }
        fullText();
        eachCountOnItsOwn();
        everyRefusalIsCounted();
        probe.end();
    }

    private static void numbersOf(Object[] call, int n) {
        String name = (String) call[0];
        int many = (call.length - 1) / 2;
        for (int i = 0; i < many; i++) {
            int kind = (Integer) call[1 + 2 * i];
            boolean ofPoint = kind == POINT && !name.equals("parts");
            int least = ofPoint ? 0 : kind == SET ? 1 : kind;
            int greatest = ofPoint ? n - 1 : kind == SET ? (1 << n) - 1 : (Integer) call[2 + 2 * i];
            taken(name, many, i, least, n);
            taken(name, many, i, greatest, n);
            bad(name, many, i, least - 1, n);
            bad(name, many, i, Integer.MIN_VALUE, n);
            if (greatest < FAR) {
                bad(name, many, i, greatest + 1, n);
                bad(name, many, i, FAR, n);
            }
            if (ofPoint || kind == SET) {
                // 32 and 33 would be 0 and 1 again, if a bit were shifted by them
                bad(name, many, i, 32, n);
                bad(name, many, i, 33, n);
            }
        }
    }

    /** Numbers that are all taken, but for one of them. */
    private static int[] numbers(String name, int many, int place, int value) {
        int[] a = new int[many];
        if (name.equals("lines") || name.equals("together")) {
            Arrays.fill(a, 1);
            a[0] = name.equals("lines") ? 0 : 1;
        }
        a[place] = value;
        if (name.equals("lines") && place < 2) {
            a[1 - place] = value == 0 ? 1 : 0;
        }
        return a;
    }

    private static void taken(String name, int many, int place, int value, int n) {
        int[] a = numbers(name, many, place, value);
        FiredChips x = playedOn(n);
        Probe.call(name, a).applyAsLong(x);
        probe.due(name + Arrays.toString(a) + " with " + n + " points is taken: told(0)", x.told(0), 0);
        probe.due(name + Arrays.toString(a) + " with " + n + " points is taken: told(1)", x.told(1), 0);
    }

    private static void bad(String name, int many, int place, int value, int n) {
        int[] a = numbers(name, many, place, value);
        String call = name + Arrays.toString(a) + " with " + n + " points";
        probe.refused(call, () -> playedOn(n), Probe.call(name, a), Probe.BAD);
        // BAD comes first also where NO is due by the rest
        probe.refused(call + ", broken", () -> broken(n), Probe.call(name, a), Probe.BAD);
    }

    private static void linesOfOnePoint(int n) {
        for (int p = 0; p < n; p++) {
            probe.refused("lines alike " + p, () -> playedOn(n), Probe.call("lines", p, p, 1), Probe.BAD);
            probe.refused("lines alike " + p, () -> playedOn(n), Probe.call("lines", p, p, 0), Probe.BAD);
        }
    }

    private static void fullText() {
        Supplier<FiredChips> full = () -> broken(3);
        probe.due("a full text", full.get().told(3), 120);
        probe.refused("type(0) behind 120", full, Probe.call("type", 0), Probe.FULL);
        probe.refused("type(127) behind 120", full, Probe.call("type", 127), Probe.FULL);
        probe.refused("type(128) behind 120: BAD first", full, Probe.call("type", 128), Probe.BAD);
        probe.refused("type(-1) behind 120: BAD first", full, Probe.call("type", -1), Probe.BAD);
    }

    private static void eachCountOnItsOwn() {
        FiredChips x = broken(3);
        x.settles();
        x.settles();
        x.settles();
        x.type(65);
        x.type(65);
        x.fires(3);
        probe.countsDue("each count on its own", x, 1, 3, 2);
        x.told(7);
        probe.countsDue("told() counts, too", x, 2, 3, 2);
        x.digest();
        probe.countsDue("digest() counts nothing", x, 2, 3, 2);
        x.back();
        x.clear();
        probe.countsDue("back() and clear() leave the counts", x, 2, 3, 2);
    }

    private static void everyRefusalIsCounted() {
        FiredChips x = new FiredChips();
        for (int i = 1; i <= 500; i++) {
            probe.due("back()", x.back(), Probe.NO);
        }
        probe.countsDue("many refused", x, 0, 500, 0);
    }

    /** A joined network with a SCRIPT, KEPT rows 0 to 2, a text and 4 STATES. */
    private static FiredChips playedOn(int n) {
        FiredChips x = new FiredChips();
        String[] chips = {"", "", "2 3", "1 2 2", "1 1 2 1", "0 2 1 1 1"};
        StringBuilder words = new StringBuilder("n" + n + ";");
        for (int p = 1; p < n; p++) {
            words.append('l').append(p - 1).append(' ').append(p).append(p == 1 ? " 1;" : " 2;");
        }
        Probe.reads(x, words + "c" + chips[n] + ";z;");
        x.keeps(0);
        x.keeps(1);
        x.keeps(2);
        Probe.typed(x, "a0 1;");
        return x;
    }

    /** Not joined, debts, CHIPS at both ends, 5 STATES, none KEPT, a full text. */
    private static FiredChips broken(int n) {
        FiredChips x = new FiredChips();
        String[] chips = {"", "", "999 -999", "999 -999 3", "-999 999 -999 4", "-999 999 -999 999 -1"};
        x.draws(1);
        x.draws(2);
        x.draws(3);
        Probe.reads(x, "n" + n + ";c" + chips[n] + ";");
        if (n > 2) {
            x.lines(0, 1, 3);
        } else {
            x.lines(0, 1, 0);
        }
        Probe.typed(x, "a0 0;" + " ".repeat(115));
        return x;
    }
}
