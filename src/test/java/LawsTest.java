import java.util.ArrayList;
import java.util.Arrays;
import java.util.List;
import java.util.Random;

/**
 * Laws that follow from the document and hold whatever the rows are, asked of the class alone: no model, so that a
 * misreading shared by class and model is seen where it breaks what the words are for.
 */
public final class LawsTest {
    private static final int NONE = KeptVersions.NONE;
    private static final int ROUNDS = 4000;
    private static int wrong = 0;
    private static int joined = 0, swapped = 0, stored = 0;

    private final Random random;
    private final int seed;
    private final int kinds;

    private LawsTest(int seed) {
        this.seed = seed;
        random = new Random(seed);
        kinds = 2 + random.nextInt(9);
    }

    public static void main(String[] args) {
        for (int seed = 1; seed <= ROUNDS && wrong < 20; seed++) {
            LawsTest laws = new LawsTest(seed);
            laws.ofDifferences();
            laws.ofPatchesOnRows();
            laws.ofPuttingTogether();
            laws.ofSwapping();
            laws.ofJoining();
            laws.ofLeadingBack();
            laws.ofStores();
        }
        check(0, "rows were joined, patches swapped, stores found often enough to tell", joined > 500 && swapped > 500 && stored > 500);
        System.out.println(wrong == 0 ? "all laws hold" : wrong + " laws were broken");
        if (wrong != 0) {
            System.exit(1);
        }
    }

    private static void check(int seed, String law, boolean holds) {
        if (!holds) {
            wrong++;
            System.out.println("seed " + seed + ": broken: " + law);
        }
    }

    private void law(String law, boolean holds) {
        check(seed, law, holds);
    }

    // ---- differences

    private void ofDifferences() {
        KeptVersions k = new KeptVersions();
        int u = version(k, anyRow()), v = version(k, anyRow());
        law("as many lines are kept either way", k.differ(u, v, 0) == k.differ(v, u, 0));
        law("kept and gone are all of u", k.differ(u, v, 0) + k.differ(u, v, 2) == k.about(u, 0));
        law("kept and come are all of v", k.differ(u, v, 0) + k.differ(u, v, 3) == k.about(v, 0));
        int last = NONE, kept = 0;
        for (int i = 0; i < k.about(u, 0); i++) {
            int mate = k.kept(u, v, i);
            if (mate != NONE) {
                law("kept lines are in order", mate > last);
                law("kept lines are like", k.text(u, i) == k.text(v, mate));
                last = mate;
                kept++;
            }
        }
        law("differ() and kept() tell as many", kept == k.differ(u, v, 0));
        int p = k.patch(u, v);
        for (int what = 0; what <= 3; what++) {
            law("differ() and of() tell the same", k.of(p, what) == k.differ(u, v, what + 1));
        }
        law("a patch keeps to its limits", k.of(p, 0) <= 10 && k.of(p, 1) <= 14 && k.of(p, 2) <= 14);
        law("hunks do not touch", hunksAreApart(k, p));
    }

    // ---- patches on rows

    private void ofPatchesOnRows() {
        KeptVersions k = new KeptVersions();
        int[] first = anyRow(), second = random.nextBoolean() ? near(first) : anyRow();
        int u = version(k, first), v = version(k, second);
        int p = k.patch(u, v);
        k.take(u);
        law("a difference fits what it is from", k.fits(p) == 1 && k.lay(p) == second.length);
        law("and leads to what it is to", Arrays.equals(desk(k), second));
        k.take(u);
        law("what fits is laid loosely without a move", k.loose(p) == 0 && Arrays.equals(desk(k), second));
        int back = k.turn(p);
        law("turned it leads back", k.lay(back) == first.length && Arrays.equals(desk(k), first));
        law("turned twice it is as it was", Arrays.equals(told(k, k.turn(back)), told(k, p)));
        law("with its turned one nothing is left", k.of(k.together(p, back), 0) == 0);
        law("nor the other way round", k.of(k.together(back, p), 0) == 0);
        int blank = k.blank();
        law("behind a blank one it stays", Arrays.equals(told(k, k.together(blank, p)), told(k, p)));
        law("ahead of a blank one it stays", Arrays.equals(told(k, k.together(p, blank)), told(k, p)));
    }

    private void ofPuttingTogether() {
        KeptVersions k = new KeptVersions();
        int[] first = anyRow(), second = near(first), third = near(second);
        int u = version(k, first), v = version(k, second), w = version(k, third);
        int p = k.patch(u, v), q = k.patch(v, w);
        int both = k.together(p, q);
        k.take(u);
        law("both at once fits what the first is for", k.fits(both) == 1 && k.lay(both) == third.length);
        law("both at once leads to where one by one leads", Arrays.equals(desk(k), third));
        law("both at once has hunks apart", hunksAreApart(k, both));
        int bothBack = k.together(k.turn(q), k.turn(p));
        law("turned ones, in the other order, lead back", k.lay(bothBack) == first.length && Arrays.equals(desk(k), first));
        law("they are both at once, turned", Arrays.equals(told(k, bothBack), told(k, k.turn(both))));
    }

    private void ofSwapping() {
        KeptVersions k = new KeptVersions();
        int[] first = anyRow(), second = near(first), third = near(second);
        int u = version(k, first), v = version(k, second), w = version(k, third);
        int p = k.patch(u, v), q = k.patch(v, w);
        int ahead = k.swap(p, q);
        if (ahead == KeptVersions.STATE) {
            return;
        }
        swapped++;
        k.take(u);
        law("the second one goes first", k.fits(ahead) == 1);
        if (k.lay(ahead) != KeptVersions.FULL) {
            law("then the first one goes", k.lay(ahead + 1) == third.length);
            law("swapped they lead to the same row", Arrays.equals(desk(k), third));
        }
        law("swapped ones together are as the two were", Arrays.equals(told(k, k.together(ahead, ahead + 1)), told(k, k.together(p, q))));
        int again = k.swap(ahead, ahead + 1);
        law("swapped again they are as they were", again >= 0 && Arrays.equals(told(k, again), told(k, p))
            && Arrays.equals(told(k, again + 1), told(k, q)));
    }

    // ---- joining, leading back

    private void ofJoining() {
        KeptVersions k = new KeptVersions();
        int[] base = anyRow();
        int b = version(k, base), x = version(k, near(base)), y = version(k, near(base));
        int clashes = k.clash(b, x, y);
        law("no more clash than there are", clashes >= 0 && clashes <= k.differ(b, x, 1));
        law("if none of x clash, none of y do", (clashes == 0) == (k.clash(b, y, x) == 0));
        law("joined with itself it is laid once", k.join(b, x, x) == k.about(x, 0) && Arrays.equals(desk(k), lines(k, x)));
        law("joined with the base it is itself", k.join(b, x, b) == k.about(x, 0) && Arrays.equals(desk(k), lines(k, x)));
        law("what clashes is not joined", (k.join(b, x, y) == KeptVersions.STATE) == (clashes > 0));
        if (clashes == 0 && k.join(b, x, y) >= 0) {
            joined++;
            int[] one = desk(k);
            law("joined either way it is the same", k.join(b, y, x) == one.length && Arrays.equals(desk(k), one));
        }
    }

    private void ofLeadingBack() {
        KeptVersions k = new KeptVersions();
        List<int[]> rows = new ArrayList<>();
        int n = 5;
        for (int v = 0; v < n; v++) {
            int p = v == 0 || random.nextInt(5) == 0 ? NONE : random.nextInt(v);
            int q = p == NONE ? NONE : random.nextInt(v);
            rows.add(p == NONE ? anyRow() : near(rows.get(p)));
            setDesk(k, rows.get(v));
            k.keep(p, q == p ? NONE : q);
        }
        for (int v = 0; v < n; v++) {
            int shares = 0;
            for (int by = 0; by < n; by++) {
                int share = k.share(v, by);
                shares += share;
                law("none is brought by a later one", by <= v || share == 0);
            }
            law("each line is brought by one", shares == rows.get(v).length);
            if (rows.get(v).length > 0) {
                int i = random.nextInt(rows.get(v).length);
                law("who brought a line has it, brought by none else", has(k, k.brought(v, i), k.text(v, i)));
            }
        }
    }

    private static boolean has(KeptVersions k, int version, int line) {
        for (int i = 0; i < k.about(version, 0); i++) {
            if (k.text(version, i) == line && k.brought(version, i) == version) {
                return true;
            }
        }
        return false;
    }

    // ---- stores

    private void ofStores() {
        KeptVersions k = new KeptVersions();
        int n = 1 + random.nextInt(6);
        int[] row = anyRow();
        for (int i = 0; i < n; i++) {
            k.asked(version(k, row), random.nextInt(10));
            row = random.nextInt(4) == 0 ? anyRow() : near(row);
        }
        int bound = 1 + random.nextInt(30);
        int room = k.store(n, bound, 0);
        int wider = k.store(n, 999, 0);
        law("where the bound is widest there is a store", wider > 0);
        if (room == NONE) {
            law("without a store nothing is told", k.worst(n, bound, 0) == NONE && k.saved(n, bound, 99, 0) == NONE && k.store(n, bound, 10) == -2);
            return;
        }
        stored++;
        law("a wider bound takes no more room", wider <= room);
        int[] from = new int[n];
        int rooms = 0, sum = 0, all = 0;
        for (int i = 0; i < n; i++) {
            from[i] = k.store(n, bound, 10 + i);
            rooms += piece(k, i, from[i]);
        }
        for (int i = 0; i < n; i++) {
            int remade = 0;
            for (int on = i, steps = 0; on != NONE && steps <= n; on = from[on], steps++) {
                remade += piece(k, on, from[on]);
            }
            law("each is remade within the bound", remade <= bound);
            law("what it is remade for is told", i > 2 || k.store(n, bound, 20 + i) == remade);
            sum += k.about(i, 3) * remade;
            all += k.about(i, 3);
        }
        law("the room is that of all pieces", rooms == room);
        law("the sum is by what is asked", k.store(n, bound, 1) == sum);
        int lost = k.worst(n, bound, 1);
        int then = k.saved(n, bound, 99, 1);
        law("no more is lost than is asked", lost <= all);
        law("a second copy makes nothing worse", then <= lost);
        law("more room saves no less", k.saved(n, bound, 5, 0) == NONE || k.saved(n, bound, 5, 1) >= then);
    }

    private static int piece(KeptVersions k, int i, int from) {
        return from == NONE ? k.about(i, 4) : k.differ(from, i, 4);
    }

    // ---- rows and patches

    private int[] anyRow() {
        int[] row = new int[random.nextInt(15)];
        for (int i = 0; i < row.length; i++) {
            row[i] = random.nextInt(kinds);
        }
        return row;
    }

    private int[] near(int[] row) {
        List<Integer> lines = new ArrayList<>();
        for (int line : row) {
            lines.add(line);
        }
        for (int change = random.nextInt(4); change >= 0; change--) {
            if (!lines.isEmpty() && random.nextBoolean()) {
                lines.remove(random.nextInt(lines.size()));
            } else if (lines.size() < 14) {
                lines.add(random.nextInt(lines.size() + 1), random.nextInt(kinds));
            }
        }
        return lines.stream().mapToInt(Integer::intValue).toArray();
    }

    private static void setDesk(KeptVersions k, int[] row) {
        k.take(NONE);
        for (int i = 0; i < row.length; i++) {
            k.line(i, row[i]);
        }
    }

    private static int version(KeptVersions k, int[] row) {
        setDesk(k, row);
        return k.keep(NONE, NONE);
    }

    private static int[] desk(KeptVersions k) {
        return Checks.deskOf(k);
    }

    private static int[] lines(KeptVersions k, int version) {
        return Checks.linesOf(k, version);
    }

    private static int[] told(KeptVersions k, int patch) {
        return Checks.told(k, patch);
    }

    private static boolean hunksAreApart(KeptVersions k, int patch) {
        for (int h = 1; h < k.of(patch, 0); h++) {
            if (k.hunkOf(patch, h, 0) <= k.hunkOf(patch, h - 1, 0) + k.hunkOf(patch, h - 1, 1)) {
                return false;
            }
        }
        return true;
    }
}
