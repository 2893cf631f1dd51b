import java.lang.reflect.InvocationTargetException;
import java.lang.reflect.Method;
import java.lang.reflect.Modifier;
import java.util.ArrayList;
import java.util.Comparator;
import java.util.List;
import java.util.Random;
import java.util.Set;

/**
 * Any arguments in any state: no call throws, a refused call changes nothing, and a call that only tells
 * changes nothing but how often stores were done.
 */
public final class AnyCallTest {
    private static final int CALLS = 512;
    private static final Set<Integer> REFUSALS = Set.of(-101, -102, -103, -104);
    private static final Set<String> TELLING = Set.of("desk", "text", "about", "differ", "kept", "of", "hunkOf", "fits", "clash",
        "brought", "share", "count", "digest");
    private static final int[] EDGES = {Integer.MIN_VALUE, Integer.MIN_VALUE + 1, -104, -2, -1, 0, 1, 5, 6, 9, 10, 11, 12, 13, 14,
        15, 25, 26, 28, 37, 40, 67, 68, 98, 99, 100, 998, 999, 1000, Integer.MAX_VALUE - 1, Integer.MAX_VALUE};
    private static int wrong = 0;

    public static void main(String[] args) {
        List<Method> calls = new ArrayList<>();
        for (Method m : KeptVersions.class.getDeclaredMethods()) {
            if (Modifier.isPublic(m.getModifiers())) {
                calls.add(m);
            }
        }
        calls.sort(Comparator.comparing(Method::getName));
        for (int seed = 1; seed <= 400 && wrong < 20; seed++) {
            run(calls, new Random(seed), seed);
        }
        System.out.println(wrong == 0 ? "no call throws, none that is refused changes a thing" : wrong + " calls were wrong");
        if (wrong != 0) {
            System.exit(1);
        }
    }

    private static void run(List<Method> calls, Random random, int seed) {
        KeptVersions k = new KeptVersions();
        int edges = random.nextInt(4);
        for (int n = 0; n < CALLS; n++) {
            Method call = calls.get(random.nextInt(calls.size()));
            Object[] with = new Object[call.getParameterCount()];
            for (int i = 0; i < with.length; i++) {
                with[i] = random.nextInt(4) < edges ? EDGES[random.nextInt(EDGES.length)] : random.nextInt(13) - 1;
            }
            String told = "seed " + seed + ", call " + n + ": " + call.getName() + java.util.Arrays.toString(with);
            long before = k.digest();
            try {
                Object got = call.invoke(k, with);
                boolean refused = got instanceof Integer && REFUSALS.contains(got);
                if ((refused || TELLING.contains(call.getName())) && k.digest() != before) {
                    wrong++;
                    System.out.println(told + " changed something");
                }
            } catch (InvocationTargetException e) {
                wrong++;
                System.out.println(told + " threw " + e.getCause());
            } catch (IllegalAccessException e) {
                throw new IllegalStateException(e);
            }
        }
    }
}
