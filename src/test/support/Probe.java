import java.lang.reflect.InvocationTargetException;
import java.lang.reflect.Method;
import java.util.ArrayList;
import java.util.Arrays;
import java.util.List;
import java.util.function.Supplier;
import java.util.function.ToLongFunction;

/**
 * What several tests share: networks soon made, and calls that are looked at whole: a refused call and a question may
 * change nothing but the counts, a call told S leaves one STATE that back() brings again. Each look makes objects anew,
 * as looking at all STATES takes them away; no object gets more than 512 calls.
 */
final class Probe {
    static final int NONE = -1, BAD = -2, NO = -3, FULL = -4;
    private final String test;
    private int wrong = 0;
    private int checks = 0;

    Probe(String test) {
        this.test = test;
    }

    void end() {
        System.out.println(wrong == 0 ? test + ": all " + checks + " as due" : test + ": " + wrong + " wrong");
        if (wrong != 0) {
            System.exit(1);
        }
    }

    void due(String call, long got, long want) {
        check(call + " answered " + got + ", due is " + want, got == want);
    }

    void check(String otherwise, boolean so) {
        checks++;
        if (!so) {
            wrong++;
            System.out.println(otherwise);
        }
    }

    // ---- networks

    /** A network by its lines, three numbers each: a, b, k. */
    static FiredChips network(int n, int... lines) {
        FiredChips x = new FiredChips();
        x.points(n);
        for (int i = 0; i + 2 < lines.length; i += 3) {
            x.lines(lines[i], lines[i + 1], lines[i + 2]);
        }
        return x;
    }

    static FiredChips triangle(int... chips) {
        return chips(network(3, 0, 1, 1, 0, 2, 1, 1, 2, 1), chips);
    }

    static FiredChips path(int n, int k) {
        FiredChips x = network(n);
        for (int p = 1; p < n; p++) {
            x.lines(p - 1, p, k);
        }
        return x;
    }

    static FiredChips whole(int n, int k) {
        FiredChips x = network(n);
        for (int b = 1; b < n; b++) {
            for (int a = 0; a < b; a++) {
                x.lines(a, b, k);
            }
        }
        return x;
    }

    /** CHIPS by a text, as sets() takes two figures alone; the text is empty behind it. */
    static FiredChips chips(FiredChips x, int... v) {
        if (v.length > 0) {
            StringBuilder words = new StringBuilder("c");
            for (int p = 0; p < x.told(4); p++) {
                words.append(' ').append(p < v.length ? v[p] : 0);
            }
            reads(x, words.append(';').toString());
            x.clear();
        }
        return x;
    }

    static void typed(FiredChips x, String words) {
        x.clear();
        for (char c : words.toCharArray()) {
            x.type(c);
        }
    }

    static int reads(FiredChips x, String words) {
        typed(x, words);
        return x.reads();
    }

    void chipsDue(String where, FiredChips x, int... v) {
        for (int p = 0; p < v.length; p++) {
            due(where + ": of(" + p + ", 0)", x.of(p, 0), v[p] + 1000);
        }
    }

    void countsDue(String where, FiredChips x, int bad, int no, int full) {
        due(where + ": told(0)", x.told(0), bad);
        due(where + ": told(1)", x.told(1), no);
        due(where + ": told(2)", x.told(2), full);
    }

    // ---- calls looked at whole

    /** The call is refused, counted once, and changes nothing else. */
    void refused(String call, Supplier<FiredChips> make, ToLongFunction<FiredChips> act, int why) {
        FiredChips x = make.get();
        int[] counts = {x.told(0), x.told(1), x.told(2)};
        counts[-2 - why]++;
        due(call, act.applyAsLong(x), why);
        countsDue(call, x, counts[0], counts[1], counts[2]);
        sameLooks(call, looks(make, act, 0), looks(make, untouched(), 0));
    }

    /** The call is answered so, and changes nothing at all. */
    void asked(String call, Supplier<FiredChips> make, ToLongFunction<FiredChips> act, long want) {
        FiredChips x = make.get();
        int[] counts = {x.told(0), x.told(1), x.told(2)};
        due(call, act.applyAsLong(x), want);
        countsDue(call, x, counts[0], counts[1], counts[2]);
        sameLooks(call, looks(make, act, 0), looks(make, untouched(), 0));
    }

    /** The call is answered so, and leaves one STATE: all is as before when it is taken back. */
    void leaves(String call, Supplier<FiredChips> make, ToLongFunction<FiredChips> act, long want) {
        FiredChips x = make.get();
        int[] counts = {x.told(0), x.told(1), x.told(2)};
        int states = Math.min(x.told(6) + 1, 5);
        due(call, act.applyAsLong(x), want);
        due(call + ": STATES", x.told(6), states);
        countsDue(call, x, counts[0], counts[1], counts[2]);
        due(call + ": back()", x.back(), states - 1);
        ToLongFunction<FiredChips> andBack = y -> act.applyAsLong(y) + y.back();
        sameLooks(call + " and back()", looks(make, andBack, states), looks(make, untouched(), states));
    }

    private static ToLongFunction<FiredChips> untouched() {
        return x -> 0;
    }

    private void sameLooks(String call, List<String> got, List<String> want) {
        int same = 0;
        while (same < want.size() && got.get(same).equals(want.get(same))) {
            same++;
        }
        boolean all = same == want.size();
        check(call + " changed " + (all ? "" : want.get(same) + " to " + got.get(same)), all);
    }

    /** All that can be seen; of STATES those up to 'states' (0: all), the count of them too if all. */
    private static List<String> looks(Supplier<FiredChips> make, ToLongFunction<FiredChips> act, int states) {
        List<String> all = new ArrayList<>();
        FiredChips x = make.get();
        act.applyAsLong(x);
        all.add(answers(x));
        if (states == 0) {
            all.add("STATES " + x.told(6));
        }
        for (int left = states == 0 ? 6 : states - 1; left > 0; left--) {
            x.back();
            all.add("one more back: " + state(x));
        }
        FiredChips y = make.get();
        act.applyAsLong(y);
        all.add(keptRows(y));
        FiredChips z = make.get();
        act.applyAsLong(z);
        all.add("reads() " + z.reads() + ", then " + state(z));
        return all;
    }

    private static String state(FiredChips x) {
        int n = x.told(4);
        StringBuilder s = new StringBuilder("N " + n + ", KEPT " + x.told(5) + ", LINES");
        for (int b = 1; b < n; b++) {
            for (int a = 0; a < b; a++) {
                s.append(' ').append(x.net(a, b));
            }
        }
        s.append(", CHIPS and SCRIPT");
        for (int p = 0; p < n; p++) {
            s.append(' ').append(x.of(p, 0) - 1000).append(':').append(x.script(p));
        }
        return s.toString();
    }

    private static String answers(FiredChips x) {
        StringBuilder s = new StringBuilder(state(x)).append(", bytes ").append(x.told(3));
        int n = x.told(4);
        s.append(" / ").append(x.joined()).append(' ').append(x.stable()).append(' ').append(x.trees());
        s.append(' ').append(x.order()).append(' ').append(x.won());
        for (int what = -1; what <= 3; what++) {
            s.append(" / ").append(x.burns(what)).append(' ').append(x.parts(what)).append(' ').append(x.heaps(what));
            s.append(' ').append(x.rank(what)).append(' ').append(x.equal(what));
        }
        for (int p = 0; p < n; p++) {
            s.append(" / ").append(x.of(p, 1)).append(' ').append(x.of(p, 2)).append(' ').append(x.identity(p));
            s.append(' ').append(x.recurrent(p));
            for (int q = 0; q < n; q++) {
                s.append(' ').append(x.reduced(q, p));
            }
        }
        return s.toString();
    }

    /** KEPT rows, seen on paths, where rows of one DEGREE are all EQUAL; the tests keep rows of DEGREE 5. */
    private static String keptRows(FiredChips x) {
        StringBuilder s = new StringBuilder("KEPT rows");
        for (int n = 2; n <= 5; n++) {
            x.points(n);
            x.sets(0, 5);
            for (int p = 1; p < n; p++) {
                x.lines(p - 1, p, 1);
            }
            for (int row = 0; row <= 2; row++) {
                for (int p = 0; p < n; p++) {
                    s.append(' ').append(x.way(row, p));
                }
            }
        }
        return s.toString();
    }

    // ---- calls by their names

    static Method method(String name) {
        return Arrays.stream(FiredChips.class.getDeclaredMethods()).filter(m -> m.getName().equals(name)).findFirst()
            .orElseThrow(() -> new IllegalStateException("no " + name));
    }

    static ToLongFunction<FiredChips> call(String name, int... a) {
        Method m = method(name);
        Object[] boxed = Arrays.stream(a).boxed().toArray();
        return x -> {
            try {
                return ((Number) m.invoke(x, boxed)).longValue();
            } catch (IllegalAccessException | InvocationTargetException e) {
                throw new IllegalStateException(name + Arrays.toString(a), e);
            }
        };
    }
}
