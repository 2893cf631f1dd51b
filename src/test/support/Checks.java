import java.lang.reflect.InvocationTargetException;
import java.lang.reflect.Method;
import java.util.Arrays;
import java.util.Comparator;

/**
 * What the tests of single sentences share. Of a class that extends this one each static method whose name
 * begins with 'promise' and the promise's number is a test of its own.
 */
abstract class Checks {
    static final int NONE = -1, UNKNOWN = -101, OUTSIDE = -102, STATE = -103, FULL = -104;
    static final int LOW = Integer.MIN_VALUE, HIGH = Integer.MAX_VALUE;

    private static String running = "";
    private static int wrong = 0;

    interface Call {
        int answer();
    }

    /** Runs all tests of a class; each promise of those named must have one at least. */
    static void runAll(Class<?> tests, int firstPromise, int lastPromise) {
        Method[] methods = tests.getDeclaredMethods();
        Arrays.sort(methods, Comparator.comparing(Method::getName));
        int ran = 0;
        for (int promise = firstPromise; promise <= lastPromise; promise++) {
            int before = ran;
            for (Method m : methods) {
                if (m.getName().startsWith(String.format("promise%02d", promise))) {
                    ran++;
                    run(m);
                }
            }
            running = "promise " + promise;
            due("it has tests", ran > before ? 1 : 0, 1);
        }
        int named = 0;
        for (Method m : methods) {
            named += m.getName().startsWith("promise") ? 1 : 0;
        }
        running = tests.getName();
        due("tests that ran", ran, named);
        System.out.println(ran + " tests, " + (wrong == 0 ? "all as promised" : wrong + " answers are not as promised"));
        if (wrong != 0) {
            System.exit(1);
        }
    }

    private static void run(Method test) {
        running = test.getName();
        try {
            test.invoke(null);
        } catch (InvocationTargetException e) {
            due("threw " + e.getCause(), 1, 0);
        } catch (IllegalAccessException e) {
            throw new IllegalStateException(e);
        }
    }

    static void due(String what, long got, long want) {
        if (got != want) {
            wrong++;
            System.out.println(running + ": " + what + " answered " + got + ", due is " + want);
        }
    }

    static void dueRow(String what, int[] got, int... want) {
        if (!Arrays.equals(got, want)) {
            wrong++;
            System.out.println(running + ": " + what + " is " + Arrays.toString(got) + ", due is " + Arrays.toString(want));
        }
    }

    /** Each of these calls is refused so, and changes nothing. */
    static void refused(KeptVersions k, int why, Call... calls) {
        for (int n = 0; n < calls.length; n++) {
            long before = k.digest();
            due("call " + n + " of those refused", calls[n].answer(), why);
            due("whether call " + n + " of those refused changes something", k.digest() == before ? 0 : 1, 0);
        }
    }

    static int[] repeated(int times, int line) {
        int[] row = new int[times];
        Arrays.fill(row, line);
        return row;
    }

    static int[] rising(int times, int first) {
        int[] row = new int[times];
        for (int i = 0; i < times; i++) {
            row[i] = first + i;
        }
        return row;
    }

    static int[] deskOf(KeptVersions k) {
        int[] row = new int[k.count(1)];
        for (int i = 0; i < row.length; i++) {
            row[i] = k.desk(i);
        }
        return row;
    }

    static int[] linesOf(KeptVersions k, int version) {
        int[] row = new int[k.about(version, 0)];
        for (int i = 0; i < row.length; i++) {
            row[i] = k.text(version, i);
        }
        return row;
    }

    static void setDesk(KeptVersions k, int... lines) {
        k.take(NONE);
        for (int i = 0; i < lines.length; i++) {
            k.line(i, lines[i]);
        }
    }

    static KeptVersions withDesk(int... lines) {
        KeptVersions k = new KeptVersions();
        setDesk(k, lines);
        return k;
    }

    /** A version without parents. */
    static int version(KeptVersions k, int... lines) {
        return child(k, NONE, NONE, lines);
    }

    static int child(KeptVersions k, int p, int q, int... lines) {
        setDesk(k, lines);
        return k.keep(p, q);
    }

    static KeptVersions withVersions(int[]... rows) {
        KeptVersions k = new KeptVersions();
        for (int[] row : rows) {
            version(k, row);
        }
        return k;
    }

    static int[] row(int... lines) {
        return lines;
    }

    /** One hunk, as hunk() takes it. */
    static int[] h(int at, int goes, int comes) {
        return new int[] {at, goes, comes};
    }

    static int[][] hunks(int[]... hunks) {
        return hunks;
    }

    static int made(KeptVersions k, int[]... hunks) {
        int p = k.blank();
        for (int[] h : hunks) {
            k.hunk(p, h[0], h[1], h[2]);
        }
        return p;
    }

    static KeptVersions withPatches(int[][]... patches) {
        KeptVersions k = new KeptVersions();
        for (int[][] hunks : patches) {
            made(k, hunks);
        }
        return k;
    }

    static void fillPatches(KeptVersions k, int upTo) {
        for (int n = k.count(2); n < upTo; n++) {
            k.blank();
        }
    }

    /** A patch told flat: of each hunk where it begins, how many go, how many come, the lines that go, that come. */
    static int[] told(KeptVersions k, int patch) {
        int hunks = k.of(patch, 0);
        int[] told = new int[Math.max(0, hunks * 3 + k.of(patch, 1) + k.of(patch, 2))];
        int n = 0;
        for (int h = 0; h < hunks; h++) {
            int going = k.hunkOf(patch, h, 1);
            int coming = k.hunkOf(patch, h, 2);
            told[n++] = k.hunkOf(patch, h, 0);
            told[n++] = going;
            told[n++] = coming;
            for (int i = 0; i < going; i++) {
                told[n++] = k.hunkOf(patch, h, 10 + i);
            }
            for (int i = 0; i < coming; i++) {
                told[n++] = k.hunkOf(patch, h, 40 + i);
            }
        }
        return told;
    }
}
