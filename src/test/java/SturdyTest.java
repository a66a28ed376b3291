import java.lang.reflect.InvocationTargetException;
import java.lang.reflect.Method;
import java.lang.reflect.Modifier;
import java.util.Arrays;
import java.util.Comparator;
import java.util.List;
import java.util.Random;

/**
 * No call throws, whatever its numbers, in whatever state, behind more than 512 calls too; as long as answers are
 * promised, questions change nothing.
 */
public final class SturdyTest {
    private static final int[] EDGES = {Integer.MIN_VALUE, Integer.MIN_VALUE + 1, -1000000, -1000, -100, -99, -3, -2, -1, 0, 1, 2,
        3, 4, 5, 6, 15, 31, 32, 33, 64, 99, 100, 120, 127, 128, 1000, 999999, 1000000, Integer.MAX_VALUE - 1, Integer.MAX_VALUE};
    private static final List<String> QUESTIONS = List.of("net", "joined", "script", "of", "stable", "burns", "trees", "parts",
        "identity", "recurrent", "order", "heaps", "rank", "reduced", "won", "equal", "way", "told", "digest");

    private static final int RUNS = 1500, CALLS = 600;
    // a watched call takes seven calls of the 512
    private static final int WATCHED = 73;

    public static void main(String[] args) throws IllegalAccessException {
        Method[] face = Arrays.stream(FiredChips.class.getDeclaredMethods()).filter(m -> Modifier.isPublic(m.getModifiers()))
            .sorted(Comparator.comparing(Method::getName)).toArray(Method[]::new);
        for (int run = 0; run < RUNS; run++) {
            Random random = new Random(run);
            FiredChips x = new FiredChips();
            for (int i = 0; i < CALLS; i++) {
                Method m = face[random.nextInt(face.length)];
                Object[] a = new Object[m.getParameterCount()];
                for (int j = 0; j < a.length; j++) {
                    a[j] = random.nextInt(3) == 0 ? EDGES[random.nextInt(EDGES.length)] : random.nextInt(6) - 1;
                }
                if (i < WATCHED) {
                    watch(x, m, a);
                } else {
                    call(x, m, a);
                }
            }
        }
        System.out.println("SturdyTest: all as due");
    }

    private static void watch(FiredChips x, Method m, Object[] a) throws IllegalAccessException {
        int refused = x.told(0) + x.told(1);
        long before = x.digest();
        call(x, m, a);
        boolean answered = refused == x.told(0) + x.told(1);
        if (QUESTIONS.contains(m.getName()) && answered && before != x.digest()) {
            fail(m, a, "changed something");
        }
    }

    private static void call(FiredChips x, Method m, Object[] a) throws IllegalAccessException {
        try {
            m.invoke(x, a);
        } catch (InvocationTargetException e) {
            fail(m, a, "threw " + e.getCause());
        }
    }

    private static void fail(Method m, Object[] a, String what) {
        System.out.println("SturdyTest: " + m.getName() + Arrays.toString(a) + " " + what);
        System.exit(1);
    }
}
