import java.util.ArrayDeque;
import java.util.ArrayList;
import java.util.Arrays;
import java.util.Deque;
import java.util.HashMap;
import java.util.HashSet;
import java.util.List;
import java.util.Map;
import java.util.Random;
import java.util.Set;
import java.util.regex.Matcher;
import java.util.regex.Pattern;

/**
 * Runs of calls by chance, on FiredChips and on a slow model that keeps to the document's words (one
 * firing at a time, whole groups listed, lines chosen one by one, texts by patterns), with equal answers.
 */
public final class OracleTest {
    private static final int NONE = -1, BAD = -2, NO = -3, FULL = -4;
    private static final int RUNS = 700, CALLS_OF_AN_OBJECT = 512;

    public static void main(String[] args) {
        int wrong = 0;
        for (int run = 0; run < RUNS && wrong < 10; run++) {
            wrong += runOnce(run);
        }
        System.out.println(wrong == 0 ? "OracleTest: all as due" : "OracleTest: " + wrong + " wrong");
        if (wrong != 0) {
            System.exit(1);
        }
    }

    private static int runOnce(int run) {
        Random random = new Random(run);
        FiredChips fast = new FiredChips();
        Slow slow = new Slow(random);
        List<String> calls = new ArrayList<>();
        int left = CALLS_OF_AN_OBJECT;
        for (int i = 0; ; i++) {
            String[] call = run % 2 == 0 ? choose(random, slow) : chooseFew(random, slow);
            int[] a = new int[call.length - 1];
            for (int j = 0; j < a.length; j++) {
                a[j] = Integer.parseInt(call[j + 1]);
            }
            left -= call[0].equals("words") ? 1 + words(a[0]).length() : 1;
            left--;
            if (left < 0) {
                return 0;
            }
            calls.add(call[0] + Arrays.toString(a));
            long got = onFast(fast, call[0], a);
            long want = slow.answer(call[0], a);
            long gotDigest = fast.digest();
            long wantDigest = slow.digest();
            if (got != want || gotDigest != wantDigest) {
                System.out.println("run " + run + ", call " + i + ": " + calls.get(i) + " answered " + got + ", due is " + want
                    + "; digests " + (gotDigest == wantDigest ? "alike" : "unlike") + "; behind "
                    + calls.subList(Math.max(0, i - 12), i) + "; " + slow);
                return 1;
            }
        }
    }

    private static String[] choose(Random r, Slow slow) {
        int n = slow.n;
        int p = r.nextInt(12) == 0 ? r.nextInt(9) - 2 : r.nextInt(n);
        int q = r.nextInt(12) == 0 ? r.nextInt(9) - 2 : r.nextInt(n);
        int v = r.nextInt(6) == 0 ? r.nextInt(205) - 102 : r.nextInt(9) - 2;
        switch (r.nextInt(40)) {
            case 0: return r.nextInt(3) > 0 ? call("joined") : call("points", r.nextInt(8) == 0 ? r.nextInt(9) - 1 : 2 + r.nextInt(4));
            case 1: case 2: case 3: case 4: return call("lines", p, q, r.nextInt(15) == 0 ? r.nextInt(9) - 3 : r.nextInt(4));
            case 5: return call("draws", r.nextInt(10) == 0 ? r.nextInt(3) * 1000000 - 1000000 : r.nextInt(1000000));
            case 6: return call("net", p, q);
            case 7: case 8: return call("sets", p, v);
            case 9: case 10: return call("adds", p, v);
            case 11: return call("fires", p);
            case 12: return call("borrows", p);
            case 13: return call("together", r.nextInt(8) == 0 ? r.nextInt(70) - 5 : 1 + r.nextInt((1 << n) - 1));
            case 14: case 15: return call("settles");
            case 16: return call("script", p);
            case 17: return call("of", p, r.nextInt(5) - 1);
            case 18: return call("stable");
            case 19: case 20: return call("burns", r.nextInt(5) - 1);
            case 21: return call("trees");
            case 22: return call("parts", r.nextInt(7) - 2);
            case 23: return call("identity", p);
            case 24: return call("recurrent", p);
            case 25: return call("order");
            case 26: return call("heaps", r.nextInt(4) - 1);
            case 27: case 28: return call("rank", r.nextInt(6) - 1);
            case 29: return call("reduced", q, p);
            case 30: return call("won");
            case 31: return call("keeps", r.nextInt(5) - 1);
            case 32: return call("equal", r.nextInt(5) - 1);
            case 33: case 34: return call("way", r.nextInt(5) - 1, p);
            case 35: case 36: return call("reads");
            case 37: return r.nextBoolean() ? call("clear") : call("type", r.nextInt(140) - 6);
            case 38: return call("back");
            default: return call("words", r.nextInt());
        }
    }

    /** Networks that are mostly joined, few chips, moves back and forth: ranks and ways have much to tell. */
    private static String[] chooseFew(Random r, Slow slow) {
        int p = r.nextInt(slow.n);
        int q = r.nextInt(slow.n);
        switch (r.nextInt(12)) {
            case 0: return r.nextInt(12) > 0 ? call("order") : call("points", 2 + r.nextInt(4));
            case 1: return r.nextInt(4) > 0 ? call("won") : call("draws", r.nextInt(1000000));
            case 2: return call("sets", p, r.nextInt(6) - 2);
            case 3: return call("lines", p, q, 1 + r.nextInt(3));
            case 4: return call("rank", 2);
            case 5: return call("rank", 3);
            case 6: return call("reduced", q, p);
            case 7: return call("fires", p);
            case 8: return call("borrows", p);
            case 9: return call("together", 1 + r.nextInt((1 << slow.n) - 1));
            case 10: return r.nextInt(4) > 0 ? call("equal", r.nextInt(3)) : call("keeps", r.nextInt(3));
            default: return call("way", r.nextInt(3), p);
        }
    }

    private static String[] call(String name, int... a) {
        String[] c = new String[a.length + 1];
        c[0] = name;
        for (int i = 0; i < a.length; i++) {
            c[i + 1] = "" + a[i];
        }
        return c;
    }

    /** A text by chance: mostly orders, now and then a wrong byte. */
    private static String words(int seed) {
        Random r = new Random(seed);
        StringBuilder s = new StringBuilder();
        int n = r.nextInt(3) == 0 ? 3 : 0;
        int orders = r.nextInt(6);
        for (int i = 0; i < orders; i++) {
            if (n == 0) {
                n = 2 + r.nextInt(4);
                s.append('n').append(blank(r)).append(n);
            } else {
                switch (r.nextInt(7)) {
                    case 0: s.append('z'); break;
                    case 1: s.append('f').append(blank(r)).append(r.nextInt(n)); break;
                    case 2: s.append("b ").append(r.nextInt(n)); break;
                    case 3: s.append("a").append(r.nextInt(n)).append(' ').append(r.nextInt(50) - 10); break;
                    case 4: case 5: s.append('l').append(r.nextInt(n)).append(' ').append(r.nextInt(n)).append(' ').append(r.nextInt(4)); break;
                    default:
                        s.append('c');
                        for (int p = 0; p < n; p++) {
                            s.append(' ').append(r.nextInt(9) == 0 ? r.nextInt(1999) - 999 : r.nextInt(8) - 1);
                        }
                }
            }
            s.append(blank(r)).append(';').append(blank(r));
        }
        for (int k = r.nextInt(4) == 0 ? r.nextInt(4) : 0; k > 0 && s.length() > 0; k--) {
            int at = r.nextInt(s.length());
            String signs = " 0123456789-;;nlcfbza x\t";
            char c = signs.charAt(r.nextInt(signs.length()));
            if (r.nextInt(3) == 0) {
                s.deleteCharAt(at);
            } else if (r.nextBoolean()) {
                s.insert(at, c);
            } else {
                s.setCharAt(at, c);
            }
        }
        return s.toString();
    }

    private static String blank(Random r) {
        return r.nextInt(4) == 0 ? " ".repeat(r.nextInt(3)) : "";
    }

    private static long onFast(FiredChips x, String name, int[] a) {
        switch (name) {
            case "points": return x.points(a[0]);
            case "lines": return x.lines(a[0], a[1], a[2]);
            case "draws": return x.draws(a[0]);
            case "net": return x.net(a[0], a[1]);
            case "joined": return x.joined();
            case "sets": return x.sets(a[0], a[1]);
            case "adds": return x.adds(a[0], a[1]);
            case "fires": return x.fires(a[0]);
            case "borrows": return x.borrows(a[0]);
            case "together": return x.together(a[0]);
            case "settles": return x.settles();
            case "script": return x.script(a[0]);
            case "of": return x.of(a[0], a[1]);
            case "stable": return x.stable();
            case "burns": return x.burns(a[0]);
            case "trees": return x.trees();
            case "parts": return x.parts(a[0]);
            case "identity": return x.identity(a[0]);
            case "recurrent": return x.recurrent(a[0]);
            case "order": return x.order();
            case "heaps": return x.heaps(a[0]);
            case "rank": return x.rank(a[0]);
            case "reduced": return x.reduced(a[0], a[1]);
            case "won": return x.won();
            case "keeps": return x.keeps(a[0]);
            case "equal": return x.equal(a[0]);
            case "way": return x.way(a[0], a[1]);
            case "type": return x.type(a[0]);
            case "clear": return x.clear();
            case "reads": return x.reads();
            case "back": return x.back();
            case "words":
                x.clear();
                long sum = 0;
                for (char c : words(a[0]).toCharArray()) {
                    sum = 7 * sum + x.type(c);
                }
                return sum;
            default: throw new IllegalArgumentException(name);
        }
    }

    /** The document, word by word. */
    private static final class Slow {
        private final Random random;
        private int n = 3;
        private int[][] lines = new int[5][5];
        private int[] chips = new int[5];
        private int[] script = new int[5];
        private int[][] kept = new int[3][];
        private final Deque<Object[]> states = new ArrayDeque<>();
        private final int[] refused = new int[3];
        private String text = "";
        private final Map<String, Set<List<Integer>>> groups = new HashMap<>();

        Slow(Random random) {
            this.random = new Random(random.nextLong());
        }

        @Override
        public String toString() {
            return "N " + n + ", lines " + Arrays.deepToString(lines) + ", chips " + Arrays.toString(chips) + ", text '" + text + "'";
        }

        private Object[] save() {
            int[][] l = new int[5][];
            for (int i = 0; i < 5; i++) {
                l[i] = lines[i].clone();
            }
            return new Object[] {n, l, chips.clone(), script.clone(), kept.clone()};
        }

        private void restore(Object[] s) {
            n = (Integer) s[0];
            lines = (int[][]) s[1];
            chips = (int[]) s[2];
            script = (int[]) s[3];
            kept = (int[][]) s[4];
        }

        private void leave(Object[] state) {
            states.push(state);
            if (states.size() > 5) {
                states.removeLast();
            }
        }

        long answer(String name, int[] a) {
            Object[] before = save();
            if (name.equals("words")) {
                text = "";
                long sum = 0;
                for (char c : words(a[0]).toCharArray()) {
                    sum = 7 * sum + answer("type", new int[] {c});
                }
                return sum;
            }
            if (List.of("points", "lines", "draws", "sets", "adds", "fires", "borrows", "together", "settles", "keeps").contains(name)) {
                long[] answer = new long[1];
                int why = act(name, a, answer);
                if (why == 0) {
                    leave(before);
                    return answer[0];
                }
                restore(before);
                refused[-2 - why]++;
                return why;
            }
            if (name.equals("reads")) {
                long r = reads();
                if (r >= 0) {
                    leave(before);
                } else {
                    restore(before);
                }
                return r;
            }
            long[] answer = new long[1];
            int why = question(name, a, answer);
            if (why != 0) {
                refused[-2 - why]++;
                return why;
            }
            return answer[0];
        }

        private boolean point(int p) {
            return 0 <= p && p < n;
        }

        private int valence(int p) {
            int v = 0;
            for (int b = 0; b < n; b++) {
                v += lines[p][b];
            }
            return v;
        }

        private boolean inRange() {
            return Arrays.stream(chips).allMatch(c -> -999 <= c && c <= 999);
        }

        private void fire(int[] c, int p, int times) {
            for (int b = 0; b < n; b++) {
                if (b != p) {
                    c[b] += times * lines[p][b];
                    c[p] -= times * lines[p][b];
                }
            }
        }

        private int act(String name, int[] a, long[] answer) {
            switch (name) {
                case "points":
                    if (a[0] < 2 || a[0] > 5) return BAD;
                    answer[0] = n;
                    n = a[0];
                    lines = new int[5][5];
                    chips = new int[5];
                    script = new int[5];
                    return 0;
                case "lines":
                    if (!point(a[0]) || !point(a[1]) || a[0] == a[1] || a[2] < 0 || a[2] > 3) return BAD;
                    answer[0] = lines[a[0]][a[1]];
                    lines[a[0]] = lines[a[0]].clone();
                    lines[a[1]] = lines[a[1]].clone();
                    lines[a[0]][a[1]] = a[2];
                    lines[a[1]][a[0]] = a[2];
                    return 0;
                case "draws":
                    if (a[0] < 0 || a[0] > 999999) return BAD;
                    long x = a[0];
                    lines = new int[5][5];
                    for (int b = 1; b < n; b++) {
                        for (int c = 0; c < b; c++) {
                            x = (x * 1103515245L + 12345) % (1L << 31);
                            lines[b][c] = (int) ((x >> 16) % 3);
                            lines[c][b] = lines[b][c];
                            answer[0] += lines[b][c];
                        }
                    }
                    for (int p = 0; p < n; p++) {
                        x = (x * 1103515245L + 12345) % (1L << 31);
                        chips[p] = (int) ((x >> 16) % 7);
                    }
                    return 0;
                case "sets":
                    if (!point(a[0]) || a[1] < -99 || a[1] > 99) return BAD;
                    answer[0] = chips[a[0]];
                    chips[a[0]] = a[1];
                    return 0;
                case "adds":
                    if (!point(a[0]) || a[1] < -99 || a[1] > 99) return BAD;
                    chips[a[0]] += a[1];
                    answer[0] = chips[a[0]];
                    return inRange() ? 0 : NO;
                case "fires":
                case "borrows":
                    if (!point(a[0])) return BAD;
                    fire(chips, a[0], name.equals("fires") ? 1 : -1);
                    answer[0] = 1;
                    return inRange() ? 0 : NO;
                case "together":
                    if (a[0] < 1 || a[0] >= 1 << n) return BAD;
                    int[] old = chips.clone();
                    for (int p = 0; p < n; p++) {
                        if ((a[0] & 1 << p) != 0) fire(chips, p, 1);
                    }
                    for (int p = 0; p < n; p++) {
                        if (old[p] != chips[p]) answer[0]++;
                    }
                    return inRange() ? 0 : NO;
                case "settles":
                    if (!joined() || !heap()) return NO;
                    script = new int[5];
                    answer[0] = settle(chips, script);
                    return inRange() ? 0 : NO;
                case "keeps":
                    if (a[0] < 0 || a[0] > 2) return BAD;
                    kept[a[0]] = Arrays.copyOf(chips, n);
                    answer[0] = degree(chips) + 10000;
                    return 0;
                default:
                    throw new IllegalArgumentException(name);
            }
        }

        private int settle(int[] c, int[] fired) {
            int total = 0;
            while (true) {
                List<Integer> full = new ArrayList<>();
                for (int p = 1; p < n; p++) {
                    if (c[p] >= valence(p) && valence(p) > 0) full.add(p);
                }
                if (full.isEmpty()) return total;
                int p = full.get(random.nextInt(full.size()));
                fire(c, p, 1);
                fired[p]++;
                total++;
            }
        }

        private boolean joined() {
            return joinedBy(lines);
        }

        private boolean joinedBy(int[][] l) {
            Set<Integer> seen = new HashSet<>(Set.of(0));
            Deque<Integer> todo = new ArrayDeque<>(List.of(0));
            while (!todo.isEmpty()) {
                int a = todo.pop();
                for (int b = 0; b < n; b++) {
                    if (l[a][b] > 0 && seen.add(b)) todo.push(b);
                }
            }
            return seen.size() == n;
        }

        private boolean heap() {
            for (int p = 1; p < n; p++) {
                if (chips[p] < 0) return false;
            }
            return true;
        }

        private boolean full(int p) {
            return p > 0 && valence(p) > 0 && chips[p] >= valence(p);
        }

        private boolean stable() {
            for (int p = 1; p < n; p++) {
                if (full(p)) return false;
            }
            return heap();
        }

        private int degree(int[] c) {
            int d = 0;
            for (int p = 0; p < n; p++) {
                d += c[p];
            }
            return d;
        }

        private int lineCount() {
            int all = 0;
            for (int b = 1; b < n; b++) {
                for (int a = 0; a < b; a++) {
                    all += lines[a][b];
                }
            }
            return all;
        }

        /** Chooses N less 1 lines in all ways. */
        private int trees() {
            List<int[]> each = new ArrayList<>();
            for (int b = 1; b < n; b++) {
                for (int a = 0; a < b; a++) {
                    for (int k = 0; k < lines[a][b]; k++) {
                        each.add(new int[] {a, b});
                    }
                }
            }
            return treesFrom(each, 0, n - 1, new int[5][5]);
        }

        private int treesFrom(List<int[]> each, int from, int left, int[][] taken) {
            if (left == 0) return joinedBy(taken) ? 1 : 0;
            int sum = 0;
            for (int i = from; i + left <= each.size(); i++) {
                int a = each.get(i)[0], b = each.get(i)[1];
                taken[a][b]++;
                taken[b][a]++;
                sum += treesFrom(each, i + 1, left - 1, taken);
                taken[a][b]--;
                taken[b][a]--;
            }
            return sum;
        }

        private String key() {
            return n + Arrays.deepToString(lines);
        }

        private List<Integer> asList(int[] c) {
            List<Integer> list = new ArrayList<>();
            for (int p = 1; p < n; p++) {
                list.add(c[p]);
            }
            return list;
        }

        private int[] asRow(List<Integer> list) {
            int[] c = new int[5];
            for (int p = 1; p < n; p++) {
                c[p] = list.get(p - 1);
            }
            return c;
        }

        /** RECURRENT heaps: all that come from the greatest stable one by adding chips. */
        private Set<List<Integer>> group() {
            return groups.computeIfAbsent(key(), k -> {
                int[] top = new int[5];
                for (int p = 1; p < n; p++) {
                    top[p] = valence(p) - 1;
                }
                Set<List<Integer>> seen = new HashSet<>(Set.of(asList(top)));
                Deque<List<Integer>> todo = new ArrayDeque<>(seen);
                while (!todo.isEmpty()) {
                    List<Integer> c = todo.pop();
                    for (int p = 1; p < n; p++) {
                        int[] d = asRow(c);
                        d[p]++;
                        settle(d, new int[5]);
                        if (seen.add(asList(d))) todo.push(asList(d));
                    }
                }
                return seen;
            });
        }

        private List<Integer> added(List<Integer> a, List<Integer> b) {
            int[] c = new int[5];
            for (int p = 1; p < n; p++) {
                c[p] = a.get(p - 1) + b.get(p - 1);
            }
            settle(c, new int[5]);
            return asList(c);
        }

        private List<Integer> identity() {
            List<Integer> found = null;
            for (List<Integer> c : group()) {
                if (added(c, c).equals(c)) {
                    if (found != null) throw new IllegalStateException("two identities");
                    found = c;
                }
            }
            return found;
        }

        private int orderOf(List<Integer> heap) {
            List<Integer> e = identity();
            List<Integer> sum = added(e, heap);
            int k = 1;
            while (!sum.equals(e)) {
                sum = added(sum, heap);
                k++;
            }
            return k;
        }

        /** Adding brings each heap into the group, to the one that is EQUAL to it. */
        private List<Integer> recurrent() {
            List<Integer> r = added(identity(), asList(chips));
            int[] a = asRow(r);
            a[0] = degree(chips) - degree(a);
            if (wayBetween(chips, a) == null || !group().contains(r)) throw new IllegalStateException("not equal");
            return r;
        }

        /** Elimination in whole numbers; null, if one row does not become the other. */
        private long[] wayBetween(int[] from, int[] to) {
            if (degree(from) != degree(to)) return null;
            int m = n - 1;
            long[][] e = new long[m][m + 1];
            for (int i = 0; i < m; i++) {
                for (int j = 0; j < m; j++) {
                    e[i][j] = i == j ? valence(i + 1) : -lines[i + 1][j + 1];
                }
                e[i][m] = from[i + 1] - to[i + 1];
            }
            for (int i = 0; i < m; i++) {
                int pivot = i;
                while (e[pivot][i] == 0) pivot++;
                long[] swap = e[i];
                e[i] = e[pivot];
                e[pivot] = swap;
                for (int j = 0; j < m; j++) {
                    if (j == i) continue;
                    long f = e[j][i], g = e[i][i];
                    for (int k = 0; k <= m; k++) {
                        e[j][k] = e[j][k] * g - e[i][k] * f;
                    }
                    long d = 0;
                    for (long each : e[j]) {
                        d = java.math.BigInteger.valueOf(d).gcd(java.math.BigInteger.valueOf(each)).longValue();
                    }
                    for (int k = 0; k <= m && d > 1; k++) {
                        e[j][k] /= d;
                    }
                }
            }
            long[] way = new long[5];
            for (int i = 0; i < m; i++) {
                if (e[i][m] % e[i][i] != 0) return null;
                way[i + 1] = e[i][m] / e[i][i];
            }
            return way;
        }

        /** As the definition tells: borrow out of debt, then fire sets while some set can. */
        private int[] reduced(int[] row, int q) {
            int[] c = row.clone();
            int turns = 0;
            for (boolean debt = true; debt; ) {
                debt = false;
                for (int p = 0; p < n; p++) {
                    if (p != q && c[p] < 0 && valence(p) > 0) {
                        fire(c, p, -((-c[p] + valence(p) - 1) / valence(p)));
                        debt = true;
                    }
                }
                if (++turns > 1000000) throw new IllegalStateException("too long");
            }
            for (int set = firingSet(c, q); set != 0; set = firingSet(c, q)) {
                for (int p = 0; p < n; p++) {
                    if ((set & 1 << p) != 0) fire(c, p, 1);
                }
            }
            return c;
        }

        private int firingSet(int[] c, int q) {
            for (int set = 1; set < 1 << n; set++) {
                if ((set & 1 << q) != 0) continue;
                boolean can = true;
                for (int p = 0; p < n; p++) {
                    int out = 0;
                    for (int b = 0; b < n; b++) {
                        if ((set & 1 << b) == 0) out += lines[p][b];
                    }
                    if ((set & 1 << p) != 0 && c[p] < out) can = false;
                }
                if (can) return set;
            }
            return 0;
        }

        private boolean won(int[] c) {
            return reduced(c, 0)[0] >= 0;
        }

        /** Each row with none below 0, looked at one by one. */
        private boolean wonBySearch(int[] c, int[] other, int p, int left) {
            if (p == n - 1) {
                other[p] = left;
                return wayBetween(c, other) != null;
            }
            for (int v = 0; v <= left; v++) {
                other[p] = v;
                if (wonBySearch(c, other, p + 1, left - v)) return true;
            }
            return false;
        }

        private boolean wonSurely(int[] c) {
            boolean so = won(c);
            int d = degree(c);
            if (d >= 0 && d <= 4 && random.nextInt(20) == 0 && so != wonBySearch(c, new int[5], 0, d)) {
                throw new IllegalStateException("won is wrong");
            }
            return so;
        }

        private int rank(int[] c) {
            int r = -1;
            while (allWon(c, 0, r + 1)) {
                r++;
            }
            return r;
        }

        private boolean allWon(int[] c, int p, int left) {
            if (p == n - 1) {
                int[] d = c.clone();
                d[p] -= left;
                return wonSurely(d);
            }
            for (int v = 0; v <= left; v++) {
                int[] d = c.clone();
                d[p] -= v;
                if (!allWon(d, p + 1, left - v)) return false;
            }
            return true;
        }

        /** As many elements of each order as a group with these parts has, and no other row of parts has. */
        private List<Integer> parts() {
            int size = group().size();
            List<Integer> found = new ArrayList<>();
            Map<List<Integer>, Integer> orders = new HashMap<>();
            for (List<Integer> c : group()) {
                orders.put(c, orderOf(c));
            }
            search(size, 2, new ArrayList<>(), orders, found);
            return found;
        }

        private void search(int left, int from, List<Integer> row, Map<List<Integer>, Integer> orders, List<Integer> found) {
            if (left == 1) {
                for (int k = 1; k <= orders.size(); k++) {
                    long due = 1;
                    for (int part : row) {
                        due *= java.math.BigInteger.valueOf(part).gcd(java.math.BigInteger.valueOf(k)).longValue();
                    }
                    int divisor = k;
                    if (orders.values().stream().filter(o -> divisor % o == 0).count() != due) return;
                }
                if (!found.isEmpty()) throw new IllegalStateException("two rows of parts");
                found.addAll(row);
                return;
            }
            for (int part = from; part <= left; part++) {
                if (left % part == 0 && (row.isEmpty() || part % row.get(row.size() - 1) == 0)) {
                    row.add(part);
                    search(left / part, part, row, orders, found);
                    row.remove(row.size() - 1);
                }
            }
        }

        private int question(String name, int[] a, long[] answer) {
            int what = a.length > 0 ? a[0] : 0;
            switch (name) {
                case "net":
                    if (!point(a[0]) || !point(a[1])) return BAD;
                    answer[0] = a[0] == a[1] ? valence(a[0]) : lines[a[0]][a[1]];
                    return 0;
                case "joined":
                    answer[0] = joined() ? 1 : 0;
                    return 0;
                case "script":
                    if (!point(what)) return BAD;
                    answer[0] = script[what];
                    return 0;
                case "of":
                    if (!point(a[0]) || a[1] < 0 || a[1] > 2) return BAD;
                    answer[0] = a[1] == 0 ? chips[a[0]] + 1000 : a[1] == 1 ? valence(a[0]) : full(a[0]) ? 1 : 0;
                    return 0;
                case "stable":
                    answer[0] = stable() ? 1 : 0;
                    return 0;
                case "burns":
                    return burns(what, answer);
                case "trees":
                    answer[0] = trees();
                    return 0;
                case "type":
                    if (what < 0 || what > 127) return BAD;
                    if (text.length() == 120) return FULL;
                    text += (char) what;
                    answer[0] = text.length();
                    return 0;
                case "clear":
                    answer[0] = text.length();
                    text = "";
                    return 0;
                case "back":
                    if (states.isEmpty()) return NO;
                    restore(states.pop());
                    answer[0] = states.size();
                    return 0;
                case "told":
                    return told(what, answer);
                default:
                    return groupQuestion(name, a, answer);
            }
        }

        private int told(int what, long[] answer) {
            int bits = 0;
            for (int s = 0; s < 3; s++) {
                if (kept[s] != null) bits |= 1 << s;
            }
            int[] all = {refused[0], refused[1], refused[2], text.length(), n, bits, states.size()};
            if (what < 0 || what >= all.length) return BAD;
            answer[0] = all[what];
            return 0;
        }

        private int burns(int what, long[] answer) {
            if (what < 0 || what > 2) return BAD;
            if (!stable()) return NO;
            Set<Integer> burnt = new HashSet<>(Set.of(0));
            int waves = 0;
            while (true) {
                Set<Integer> wave = new HashSet<>();
                for (int p = 1; p < n; p++) {
                    int to = 0;
                    for (int b : burnt) {
                        to += lines[p][b];
                    }
                    if (!burnt.contains(p) && to > valence(p) - chips[p] - 1) wave.add(p);
                }
                if (wave.isEmpty()) break;
                burnt.addAll(wave);
                waves++;
            }
            int bits = burnt.stream().mapToInt(p -> 1 << p).sum();
            answer[0] = what == 0 ? bits : what == 1 ? waves : burnt.size() == n ? 1 : 0;
            if (joined() && trees() < 300 && (burnt.size() == n) != group().contains(asList(chips))) {
                throw new IllegalStateException("burning is wrong");
            }
            return 0;
        }

        private int groupQuestion(String name, int[] a, long[] answer) {
            int what = a.length > 0 ? a[0] : 0;
            boolean joined = joined();
            switch (name) {
                case "parts":
                    if (what < -1) return BAD;
                    if (!joined) return NO;
                    List<Integer> parts = trees() > 250 ? fastParts() : parts();
                    answer[0] = what == -1 ? parts.size() : what < parts.size() ? parts.get(what) : NONE;
                    return 0;
                case "identity":
                    if (!point(what)) return BAD;
                    if (!joined) return NO;
                    answer[0] = what == 0 ? 0 : identity().get(what - 1);
                    return 0;
                case "recurrent":
                    if (!point(what)) return BAD;
                    if (!joined || !heap()) return NO;
                    answer[0] = what == 0 ? 0 : recurrent().get(what - 1);
                    return 0;
                case "order":
                    if (!joined || !heap()) return NO;
                    int[] c = chips.clone();
                    settle(c, new int[5]);
                    answer[0] = orderOf(asList(c));
                    return 0;
                case "heaps":
                    if (what < 0 || what > 1) return BAD;
                    if (!joined) return NO;
                    int product = 1;
                    for (int p = 1; p < n; p++) {
                        product *= valence(p);
                    }
                    answer[0] = what == 0 ? product : group().size();
                    return 0;
                default:
                    return rowQuestion(name, a, answer, joined);
            }
        }

        /** Too many elements to list all orders: the parts by the matrix, by turns of rows and columns. */
        private List<Integer> fastParts() {
            int m = n - 1;
            long[][] e = new long[m][m];
            for (int i = 0; i < m; i++) {
                for (int j = 0; j < m; j++) {
                    e[i][j] = i == j ? valence(i + 1) : -lines[i + 1][j + 1];
                }
            }
            List<Integer> parts = new ArrayList<>();
            for (int t = 0; t < m; t++) {
                while (true) {
                    int bi = -1, bj = -1;
                    for (int i = t; i < m; i++) {
                        for (int j = t; j < m; j++) {
                            if (e[i][j] != 0 && (bi < 0 || Math.abs(e[i][j]) < Math.abs(e[bi][bj]))) {
                                bi = i;
                                bj = j;
                            }
                        }
                    }
                    long[] swap = e[t];
                    e[t] = e[bi];
                    e[bi] = swap;
                    for (int i = 0; i < m; i++) {
                        long s = e[i][t];
                        e[i][t] = e[i][bj];
                        e[i][bj] = s;
                    }
                    boolean clean = true;
                    for (int i = t + 1; i < m; i++) {
                        long f = e[i][t] / e[t][t];
                        for (int j = t; j < m; j++) {
                            e[i][j] -= f * e[t][j];
                        }
                        clean &= e[i][t] == 0;
                    }
                    for (int j = t + 1; j < m; j++) {
                        long f = e[t][j] / e[t][t];
                        for (int i = t; i < m; i++) {
                            e[i][j] -= f * e[i][t];
                        }
                        clean &= e[t][j] == 0;
                    }
                    if (!clean) continue;
                    int bad = -1;
                    for (int i = t + 1; i < m; i++) {
                        for (int j = t + 1; j < m; j++) {
                            if (e[i][j] % e[t][t] != 0) bad = i;
                        }
                    }
                    if (bad < 0) break;
                    for (int j = t; j < m; j++) {
                        e[t][j] += e[bad][j];
                    }
                }
                if (Math.abs(e[t][t]) > 1) parts.add((int) Math.abs(e[t][t]));
            }
            return parts;
        }

        private int rowQuestion(String name, int[] a, long[] answer, boolean joined) {
            int what = a.length > 0 ? a[0] : 0;
            switch (name) {
                case "rank":
                    if (what < 0 || what > 3) return BAD;
                    if (what == 0) {
                        answer[0] = degree(chips) + 10000;
                    } else if (what == 1) {
                        answer[0] = lineCount() - n + 1 + 10;
                    } else {
                        int[] c = chips.clone();
                        for (int p = 0; p < n && what == 3; p++) {
                            c[p] = valence(p) - 2 - c[p];
                        }
                        if (!joined || degree(c) > 12) return NO;
                        answer[0] = rank(c) + 1;
                    }
                    return 0;
                case "reduced":
                    if (!point(a[0]) || !point(a[1])) return BAD;
                    if (!joined) return NO;
                    int[] r = reduced(chips, a[0]);
                    if (wayBetween(chips, r) == null) throw new IllegalStateException("not equal");
                    answer[0] = r[a[1]] + 10000;
                    return 0;
                case "won":
                    if (!joined) return NO;
                    answer[0] = wonSurely(chips) ? 1 : 0;
                    return 0;
                case "equal":
                case "way":
                    if (what < 0 || what > 2 || name.equals("way") && !point(a[1])) return BAD;
                    if (!joined || kept[what] == null || kept[what].length != n) return NO;
                    long[] way = wayBetween(chips, kept[what]);
                    answer[0] = name.equals("equal") ? (way != null ? 1 : 0) : way == null ? NONE : way[a[1]] + 100000;
                    return 0;
                default:
                    throw new IllegalArgumentException(name);
            }
        }

        private static Pattern patternOf(char letter, int points) {
            String number = "\\d{1,3}";
            switch (letter) {
                case 'n': return Pattern.compile(" *n *(" + number + ") *; *");
                case 'l': return Pattern.compile(" *l *(" + number + ") +(" + number + ") +(" + number + ") *; *");
                case 'f': return Pattern.compile(" *f *(" + number + ") *; *");
                case 'b': return Pattern.compile(" *b *(" + number + ") *; *");
                case 'z': return Pattern.compile(" *z *; *");
                case 'a': return Pattern.compile(" *a *(" + number + ")( *-| +)(" + number + ") *; *");
                case 'c': return Pattern.compile(" *c *-?" + number + "( *-" + number + "| +" + number + "){" + (points - 1) + "} *; *");
                default: return null;
            }
        }

        /** The first prefix that nothing could be put behind any more tells the FAULT. */
        private long reads() {
            List<String> orders = new ArrayList<>();
            int points = n;
            int start = 0;
            if (text.replace(" ", "").isEmpty()) return -10 - text.length();
            while (start < text.length()) {
                int letterAt = start;
                while (letterAt < text.length() && text.charAt(letterAt) == ' ') letterAt++;
                Pattern pattern = patternOf(text.charAt(letterAt), points);
                if (pattern == null) return -10 - letterAt;
                int end = -1;
                for (int to = start + 1; to <= text.length() && end < 0; to++) {
                    Matcher m = pattern.matcher(text.substring(start, to));
                    if (m.matches()) {
                        end = to;
                        while (end < text.length() && text.charAt(end) == ' ') end++;
                    } else if (!m.hitEnd()) {
                        long fault = fourthFigure(to - 1) ? -1 : faultOfN(start, letterAt);
                        return -10 - (fault < 0 ? to - 1 : fault);
                    }
                }
                long fault = faultOfN(start, letterAt);
                if (fault >= 0) return -10 - fault;
                if (end < 0) return -10 - text.length();
                String order = text.substring(letterAt, end).trim();
                orders.add(order);
                if (order.charAt(0) == 'n') points = Integer.parseInt(order.replaceAll("[n ;]", ""));
                start = end;
            }
            for (int i = 0; i < orders.size(); i++) {
                if (perform(orders.get(i)) != 0) return -1000 - i;
            }
            return orders.size();
        }

        private boolean fourthFigure(int at) {
            return at >= 3 && text.substring(at - 3, at + 1).matches("\\d{4}");
        }

        private long faultOfN(int start, int letterAt) {
            if (text.charAt(letterAt) != 'n') return -1;
            Matcher m = Pattern.compile(" *n *(\\d+).*", Pattern.DOTALL).matcher(text.substring(start));
            if (!m.matches()) return -1;
            int v = Integer.parseInt(m.group(1).substring(0, Math.min(3, m.group(1).length())));
            return v < 2 || v > 5 ? start + m.start(1) : -1;
        }

        private int perform(String order) {
            String[] numbers = order.substring(1).replace(";", "").replace("-", " -").trim().split(" +");
            int[] a = new int[order.charAt(0) == 'z' ? 0 : numbers.length];
            for (int i = 0; i < a.length; i++) {
                a[i] = Integer.parseInt(numbers[i]);
            }
            switch (order.charAt(0)) {
                case 'n': return act("points", a, new long[1]);
                case 'l': return act("lines", a, new long[1]);
                case 'f': return act("fires", a, new long[1]);
                case 'b': return act("borrows", a, new long[1]);
                case 'z': return act("settles", a, new long[1]);
                case 'a': return act("adds", a, new long[1]);
                default:
                    chips = Arrays.copyOf(a, 5);
                    return 0;
            }
        }

        long digest() {
            long h = 2293;
            long[] v = new long[1];
            for (int what = 0; what <= 6; what++) {
                told(what, v);
                h = 31 * h + v[0];
            }
            for (int b = 1; b < n; b++) {
                for (int a = 0; a < b; a++) {
                    h = 31 * h + lines[a][b];
                }
            }
            for (int p = 0; p < n; p++) {
                h = 31 * h + chips[p] + 1000;
                h = 31 * h + valence(p);
                h = 31 * h + (full(p) ? 1 : 0);
                h = 31 * h + script[p];
            }
            h = 31 * h + (joined() ? 1 : 0);
            h = 31 * h + (stable() ? 1 : 0);
            h = 31 * h + trees();
            h = 31 * h + degree(chips) + 10000;
            return 31 * h + lineCount() - n + 11;
        }
    }
}
