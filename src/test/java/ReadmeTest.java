import java.io.IOException;
import java.lang.reflect.Method;
import java.lang.reflect.Modifier;
import java.nio.file.Files;
import java.nio.file.Path;
import java.util.regex.Matcher;
import java.util.regex.Pattern;

/**
 * README.md tells the truth: each call of its example answers the number that stands behind it, and each call of
 * the face is named there.
 */
public final class ReadmeTest {
    private static final Pattern CALL = Pattern.compile("k\\.(\\w+)\\((.*)\\); +// (-?\\d+).*");
    private static int wrong = 0;

    public static void main(String[] args) throws IOException, ReflectiveOperationException {
        String readme = Files.readString(Path.of("README.md"));
        example(readme);
        names(readme);
        System.out.println(wrong == 0 ? "README.md is as the class" : wrong + " things in README.md are not as the class");
        if (wrong != 0) {
            System.exit(1);
        }
    }

    private static void check(boolean good, String what) {
        if (!good) {
            wrong++;
            System.out.println(what);
        }
    }

    private static void example(String readme) throws ReflectiveOperationException {
        KeptVersions k = new KeptVersions();
        int calls = 0;
        for (String line : readme.split("\n")) {
            if (!line.startsWith("k.")) {
                continue;
            }
            Matcher m = CALL.matcher(line);
            check(m.matches(), "not a call with its answer: " + line);
            if (m.matches()) {
                long got = answer(k, m.group(1), m.group(2).replace("NONE", "-1").split(", *"));
                check(got == Long.parseLong(m.group(3)), line + " answered " + got);
                calls++;
            }
        }
        check(calls > 30, "the example has " + calls + " calls");
    }

    private static long answer(KeptVersions k, String name, String[] with) throws ReflectiveOperationException {
        Class<?>[] types = new Class<?>[with.length];
        Object[] numbers = new Object[with.length];
        for (int i = 0; i < with.length; i++) {
            types[i] = int.class;
            numbers[i] = Integer.parseInt(with[i]);
        }
        return ((Number) KeptVersions.class.getMethod(name, types).invoke(k, numbers)).longValue();
    }

    private static void names(String readme) {
        for (Method m : KeptVersions.class.getDeclaredMethods()) {
            if (Modifier.isPublic(m.getModifiers())) {
                check(readme.contains("`" + m.getName() + "`"), m.getName() + " is not named");
            }
        }
    }
}
