import java.io.IOException;
import java.lang.reflect.Constructor;
import java.lang.reflect.Field;
import java.lang.reflect.Method;
import java.lang.reflect.Modifier;
import java.nio.file.Files;
import java.nio.file.Path;
import java.util.Set;
import java.util.TreeSet;

/**
 * The public face, member for member, and those rules of ../shared/LANGUAGE.md that can be seen from outside
 * or from single words.
 */
public final class FaceTest {
    private static final Set<String> FACE = Set.of("line 2", "drop 1", "take 1", "desk 1", "keep 2", "text 2", "about 2", "asked 2",
        "differ 3", "kept 3", "patch 2", "blank 0", "hunk 4", "of 2", "hunkOf 3", "fits 1", "lay 1", "loose 1", "turn 1",
        "together 2", "swap 2", "clash 3", "join 3", "brought 2", "share 2", "store 3", "worst 3", "saved 4", "count 1", "digest 0");
    private static final Set<String> CONSTANTS = Set.of("NONE", "UNKNOWN", "OUTSIDE", "STATE", "FULL");
    private static final String[] UNWANTED = {"package ", "->", "::", "finally", "synchronized", "assert ", "Exact", "Random",
        "static {", "protected ", "System.out", "System.nano", "System.current"};
    private static int wrong = 0;

    public static void main(String[] args) throws IOException {
        members();
        inside();
        words();
        System.out.println(wrong == 0 ? "the face is as told" : wrong + " things are not as told");
        if (wrong != 0) {
            System.exit(1);
        }
    }

    private static void check(boolean good, String what) {
        if (!good) {
            wrong++;
            System.out.println(what);
        }
    }

    private static void members() {
        Class<?> c = KeptVersions.class;
        check(Modifier.isPublic(c.getModifiers()) && Modifier.isFinal(c.getModifiers()), "the class is public and final");
        Set<String> names = new TreeSet<>();
        for (String call : FACE) {
            names.add(call.substring(0, call.indexOf(' ')));
        }
        Set<String> seen = new TreeSet<>();
        for (Method m : c.getDeclaredMethods()) {
            if (Modifier.isPublic(m.getModifiers())) {
                seen.add(m.getName() + " " + m.getParameterCount());
                Class<?> answer = m.getName().equals("digest") ? long.class : int.class;
                check(m.getReturnType() == answer, m.getName() + " answers " + m.getReturnType());
                for (Class<?> p : m.getParameterTypes()) {
                    check(p == int.class, m.getName() + " takes " + p);
                }
            } else {
                check(Modifier.isPrivate(m.getModifiers()), m.getName() + " is not private");
                check(!names.contains(m.getName()), m.getName() + " is private and bears a public name");
            }
        }
        check(seen.equals(new TreeSet<>(FACE)), "the public methods are " + seen);
        for (Field f : c.getDeclaredFields()) {
            boolean constant = CONSTANTS.contains(f.getName());
            int m = f.getModifiers();
            check(constant ? Modifier.isPublic(m) && Modifier.isStatic(m) && Modifier.isFinal(m) && f.getType() == int.class
                : Modifier.isPrivate(m), f.getName() + " is not as told");
        }
        Constructor<?>[] made = c.getDeclaredConstructors();
        check(made.length == 1 && Modifier.isPublic(made[0].getModifiers()) && made[0].getParameterCount() == 0, "one public constructor");
    }

    private static void inside() {
        Class<?>[] classes = KeptVersions.class.getDeclaredClasses();
        check(classes.length < 12, "at most some twelve classes");
        for (Class<?> c : classes) {
            check(Modifier.isStatic(c.getModifiers()) && !Modifier.isPublic(c.getModifiers()), c.getName() + " is not static or is public");
            check(c.getDeclaredFields().length <= 20, c.getName() + " has many fields");
            for (Method m : c.getDeclaredMethods()) {
                check(m.getParameterCount() <= 7, m.getName() + " takes many parameters");
            }
        }
    }

    private static void words() throws IOException {
        String text = Files.readString(Path.of("src/main/java/KeptVersions.java"));
        for (String word : UNWANTED) {
            check(!text.contains(word), "the program holds '" + word + "'");
        }
        check(text.chars().allMatch(c -> c < 128), "the program holds signs beyond 127");
    }
}
