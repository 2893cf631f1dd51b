/**
 * Each promise of the document by its number: ordinary inputs, edges, wrong inputs; answers reckoned by hand.
 */
public final class PromisesTest {
    private static final int NONE = -1, UNKNOWN = -101, OUTSIDE = -102, STATE = -103, FULL = -104;
    private static final int LOW = Integer.MIN_VALUE, HIGH = Integer.MAX_VALUE;
    private static int wrong = 0;

    public static void main(String[] args) {
        newObject();
        line();
        drop();
        take();
        desk();
        keep();
        text();
        about();
        asked();
        differ();
        kept();
        patch();
        blank();
        hunk();
        of();
        hunkOf();
        fits();
        lay();
        loose();
        turn();
        together();
        togetherRefused();
        swap();
        clash();
        join();
        brought();
        share();
        store();
        storeOfLikeOnes();
        worst();
        saved();
        count();
        digest();
        System.out.println(wrong == 0 ? "all promises hold" : wrong + " answers are not as promised");
        if (wrong != 0) {
            System.exit(1);
        }
    }

    private static void due(int promise, String what, long got, long want) {
        if (got != want) {
            wrong++;
            System.out.println("promise " + promise + ": " + what + " answered " + got + ", due is " + want);
        }
    }

    /** Compares many answers with those that are due. */
    private static void dueAll(int promise, String what, int[] got, int... want) {
        boolean same = got.length == want.length;
        for (int i = 0; same && i < got.length; i++) {
            same = got[i] == want[i];
        }
        due(promise, what + " " + java.util.Arrays.toString(got) + " for " + java.util.Arrays.toString(want), same ? 1 : 0, 1);
    }

    private static int[] row(KeptVersions k) {
        int[] row = new int[k.count(1)];
        for (int i = 0; i < row.length; i++) {
            row[i] = k.desk(i);
        }
        return row;
    }

    private static void setDesk(KeptVersions k, int... lines) {
        k.take(NONE);
        for (int i = 0; i < lines.length; i++) {
            k.line(i, lines[i]);
        }
    }

    private static int version(KeptVersions k, int p, int q, int... lines) {
        setDesk(k, lines);
        return k.keep(p, q);
    }

    /** A patch told flat: of each hunk where it begins, how many go, how many come, and the lines. */
    private static int[] told(KeptVersions k, int patch) {
        int[] told = new int[k.of(patch, 0) * 3 + k.of(patch, 1) + k.of(patch, 2)];
        int n = 0;
        for (int h = 0; h < k.of(patch, 0); h++) {
            for (int what = 0; what <= 2; what++) {
                told[n++] = k.hunkOf(patch, h, what);
            }
            for (int i = 0; i < k.hunkOf(patch, h, 1); i++) {
                told[n++] = k.hunkOf(patch, h, 10 + i);
            }
            for (int i = 0; i < k.hunkOf(patch, h, 2); i++) {
                told[n++] = k.hunkOf(patch, h, 40 + i);
            }
        }
        return told;
    }

    private static int[] fourteen(int line) {
        int[] row = new int[14];
        java.util.Arrays.fill(row, line);
        return row;
    }

    private static void newObject() {
        KeptVersions k = new KeptVersions();
        for (int what = 0; what <= 3; what++) {
            due(1, "count(" + what + ")", k.count(what), 0);
        }
        due(1, "desk(0)", k.desk(0), NONE);
        due(1, "about(0, 0)", k.about(0, 0), UNKNOWN);
        due(1, "of(0, 0)", k.of(0, 0), UNKNOWN);
        due(1, "digest()", k.digest(), 271L * 31 * 31 * 31 * 31);
    }

    private static void line() {
        KeptVersions k = new KeptVersions();
        due(2, "into an empty desk behind its end", k.line(1, 5), OUTSIDE);
        due(2, "least line", k.line(0, 0), 1);
        due(2, "greatest line, at the end", k.line(1, 99), 2);
        due(2, "between", k.line(1, 50), 3);
        dueAll(2, "row", row(k), 0, 50, 99);
        due(2, "at -1", k.line(-1, 5), OUTSIDE);
        due(2, "at behind the end", k.line(4, 5), OUTSIDE);
        due(2, "v -1", k.line(0, -1), OUTSIDE);
        due(2, "v 100", k.line(0, 100), OUTSIDE);
        due(2, "far out", k.line(HIGH, LOW), OUTSIDE);
        dueAll(2, "row as it was", row(k), 0, 50, 99);
        for (int n = 4; n <= 14; n++) {
            due(2, "line " + n, k.line(0, n), n);
        }
        due(2, "one too many", k.line(0, 1), FULL);
        due(2, "outside is told ahead of full", k.line(15, 1), OUTSIDE);
        due(2, "lines stay", k.count(1), 14);
    }

    private static void drop() {
        KeptVersions k = new KeptVersions();
        due(3, "of an empty desk", k.drop(0), UNKNOWN);
        setDesk(k, 7, 8, 9);
        due(3, "behind the end", k.drop(3), UNKNOWN);
        due(3, "ahead of the front", k.drop(-1), UNKNOWN);
        due(3, "far", k.drop(LOW), UNKNOWN);
        due(3, "within", k.drop(1), 8);
        dueAll(3, "row", row(k), 7, 9);
        due(3, "the last", k.drop(1), 9);
        due(3, "the first", k.drop(0), 7);
        due(3, "count", k.count(1), 0);
    }

    private static void take() {
        KeptVersions k = new KeptVersions();
        version(k, NONE, NONE, 1, 2, 3);
        setDesk(k, 9);
        due(4, "unknown", k.take(1), UNKNOWN);
        due(4, "below none", k.take(-2), UNKNOWN);
        dueAll(4, "desk as it was", row(k), 9);
        due(4, "a version", k.take(0), 3);
        dueAll(4, "desk", row(k), 1, 2, 3);
        k.drop(0);
        due(4, "the version is not the desk", k.text(0, 0), 1);
        due(4, "none", k.take(NONE), 0);
        due(4, "desk is empty", k.desk(0), NONE);
    }

    private static void desk() {
        KeptVersions k = new KeptVersions();
        setDesk(k, 4, 6);
        due(5, "0", k.desk(0), 4);
        due(5, "1", k.desk(1), 6);
        due(5, "2", k.desk(2), NONE);
        due(5, "-1", k.desk(-1), NONE);
        due(5, "far", k.desk(HIGH), NONE);
        k.drop(1);
        due(5, "after a drop", k.desk(1), NONE);
    }

    private static void keep() {
        KeptVersions k = new KeptVersions();
        setDesk(k, 5);
        due(6, "first unknown", k.keep(0, NONE), UNKNOWN);
        due(6, "second unknown, told ahead of only a second one", k.keep(NONE, 0), UNKNOWN);
        due(6, "below none", k.keep(-2, NONE), UNKNOWN);
        due(6, "no parents", k.keep(NONE, NONE), 0);
        dueAll(6, "the desk stays", row(k), 5);
        due(6, "the same twice", k.keep(0, 0), OUTSIDE);
        due(6, "only a second", k.keep(NONE, 0), OUTSIDE);
        due(6, "itself", k.keep(1, NONE), UNKNOWN);
        due(6, "one parent", k.keep(0, NONE), 1);
        due(6, "two parents", k.keep(0, 1), 2);
        due(6, "two parents, the later one first", k.keep(2, 0), 3);
        for (int n = 4; n < 10; n++) {
            due(6, "version " + n, k.keep(NONE, NONE), n);
        }
        due(6, "one too many", k.keep(NONE, NONE), FULL);
        due(6, "unknown ahead of full", k.keep(10, NONE), UNKNOWN);
        due(6, "outside ahead of full", k.keep(3, 3), OUTSIDE);
        due(6, "count", k.count(0), 10);
        k.line(0, 77);
        due(6, "versions stay as they were kept", k.text(9, 0), 5);
    }

    private static void text() {
        KeptVersions k = new KeptVersions();
        version(k, NONE, NONE, 3, 1);
        version(k, NONE, NONE);
        due(7, "0", k.text(0, 0), 3);
        due(7, "1", k.text(0, 1), 1);
        due(7, "behind", k.text(0, 2), NONE);
        due(7, "ahead", k.text(0, -1), NONE);
        due(7, "of an empty one", k.text(1, 0), NONE);
        due(7, "unknown", k.text(2, 0), UNKNOWN);
        due(7, "none", k.text(NONE, 0), UNKNOWN);
    }

    private static void about() {
        KeptVersions k = new KeptVersions();
        version(k, NONE, NONE, 3, 1);
        version(k, 0, NONE);
        version(k, 1, 0, 8, 8, 8);
        int[][] want = {{2, NONE, NONE, 1, 3}, {0, 0, NONE, 1, 1}, {3, 1, 0, 1, 4}};
        for (int v = 0; v < 3; v++) {
            for (int what = 0; what <= 4; what++) {
                due(8, "about(" + v + ", " + what + ")", k.about(v, what), want[v][what]);
            }
        }
        due(8, "what 5", k.about(0, 5), OUTSIDE);
        due(8, "what -1", k.about(0, -1), OUTSIDE);
        due(8, "unknown ahead of outside", k.about(3, 5), UNKNOWN);
        due(8, "none", k.about(NONE, 0), UNKNOWN);
    }

    private static void asked() {
        KeptVersions k = new KeptVersions();
        version(k, NONE, NONE, 3);
        version(k, NONE, NONE, 3);
        due(9, "was 1 at first", k.asked(0, 9), 1);
        due(9, "was 9", k.asked(0, 0), 9);
        due(9, "below", k.asked(0, -1), OUTSIDE);
        due(9, "above", k.asked(0, 10), OUTSIDE);
        due(9, "unknown ahead of outside", k.asked(2, 10), UNKNOWN);
        due(9, "none", k.asked(NONE, 1), UNKNOWN);
        due(9, "told", k.about(0, 3), 0);
        due(9, "of another one", k.about(1, 3), 1);
    }

    private static void differ() {
        KeptVersions k = new KeptVersions();
        version(k, NONE, NONE, 1, 2, 3, 4);
        version(k, NONE, NONE, 9, 1, 3, 8, 7);
        version(k, NONE, NONE);
        // 9 comes, 1 is kept, 2 goes, 3 is kept, 4 goes and 8 7 come.
        int[] want = {2, 3, 2, 3, 10};
        int[] back = {2, 3, 3, 2, 9};
        for (int what = 0; what <= 4; what++) {
            due(10, "differ(0, 1, " + what + ")", k.differ(0, 1, what), want[what]);
            due(10, "differ(1, 0, " + what + ")", k.differ(1, 0, what), back[what]);
        }
        due(10, "to none, hunks", k.differ(0, 2, 1), 1);
        due(10, "to none, room", k.differ(0, 2, 4), 3);
        due(10, "from none, room", k.differ(2, 0, 4), 7);
        due(10, "to itself, kept", k.differ(0, 0, 0), 4);
        due(10, "to itself, room", k.differ(0, 0, 4), 1);
        due(10, "unknown from", k.differ(3, 0, 9), UNKNOWN);
        due(10, "unknown to", k.differ(0, NONE, 9), UNKNOWN);
        due(10, "what 5", k.differ(0, 1, 5), OUTSIDE);
        due(10, "what -1", k.differ(0, 1, -1), OUTSIDE);
    }

    private static void kept() {
        KeptVersions k = new KeptVersions();
        version(k, NONE, NONE, 1, 2);
        version(k, NONE, NONE, 2, 1);
        version(k, NONE, NONE, 5, 5, 6, 5);
        version(k, NONE, NONE, 6, 5, 5);
        // Best ways keep one: to drop the 1 of x is tried ahead of letting the 2 of y come.
        due(11, "kept(0, 1, 0)", k.kept(0, 1, 0), NONE);
        due(11, "kept(0, 1, 1)", k.kept(0, 1, 1), 0);
        // 5 5 6 5 to 6 5 5: 6 5 by dropping both 5 at first; keeping 5 5 comes later in the telling.
        due(11, "kept(2, 3, 0)", k.kept(2, 3, 0), NONE);
        due(11, "kept(2, 3, 1)", k.kept(2, 3, 1), NONE);
        due(11, "kept(2, 3, 2)", k.kept(2, 3, 2), 0);
        due(11, "kept(2, 3, 3)", k.kept(2, 3, 3), 1);
        // 6 5 5 to 5 5 6 5: dropping the 6 of x keeps 5 5 at once.
        due(11, "kept(3, 2, 0)", k.kept(3, 2, 0), NONE);
        due(11, "kept(3, 2, 1)", k.kept(3, 2, 1), 0);
        due(11, "kept(3, 2, 2)", k.kept(3, 2, 2), 1);
        due(11, "unknown u", k.kept(4, 0, 0), UNKNOWN);
        due(11, "unknown v", k.kept(0, 4, 0), UNKNOWN);
        due(11, "unknown i", k.kept(0, 2, 2), UNKNOWN);
        due(11, "i -1", k.kept(0, 2, -1), UNKNOWN);
    }

    private static void patch() {
        KeptVersions k = new KeptVersions();
        version(k, NONE, NONE, 1, 2, 3, 4);
        version(k, NONE, NONE, 9, 1, 3, 8, 7);
        due(12, "unknown u", k.patch(2, 0), UNKNOWN);
        due(12, "unknown v", k.patch(0, NONE), UNKNOWN);
        due(12, "first", k.patch(0, 1), 0);
        dueAll(12, "hunks", told(k, 0), 0, 0, 1, 9, 1, 1, 0, 2, 3, 1, 2, 4, 8, 7);
        due(12, "to itself", k.patch(1, 1), 1);
        due(12, "no hunks", k.of(1, 0), 0);
        for (int n = 2; n < 12; n++) {
            due(12, "patch " + n, k.patch(1, 0), n);
        }
        due(12, "one too many", k.patch(0, 1), FULL);
        due(12, "unknown ahead of full", k.patch(0, 2), UNKNOWN);
        due(12, "count", k.count(2), 12);
        tenHunks();
    }

    /** The most hunks that a difference of rows of 14 lines can have. */
    private static void tenHunks() {
        KeptVersions k = new KeptVersions();
        version(k, NONE, NONE, 50, 1, 2, 3, 4, 51, 5, 52, 6, 53, 7, 54, 8, 9);
        version(k, NONE, NONE, 1, 60, 2, 61, 3, 62, 4, 5, 6, 7, 8, 63, 9, 64);
        due(12, "ten hunks", k.patch(0, 1), 0);
        due(12, "of ten hunks", k.of(0, 0), 10);
        k.take(0);
        due(12, "laid", k.lay(0), 14);
        dueAll(12, "row", row(k), 1, 60, 2, 61, 3, 62, 4, 5, 6, 7, 8, 63, 9, 64);
    }

    private static void blank() {
        KeptVersions k = new KeptVersions();
        for (int n = 0; n < 12; n++) {
            due(13, "blank " + n, k.blank(), n);
        }
        due(13, "one too many", k.blank(), FULL);
        due(13, "hunks", k.of(11, 0), 0);
        due(13, "room", k.of(11, 3), 1);
    }

    private static void hunk() {
        KeptVersions k = new KeptVersions();
        due(14, "unknown", k.hunk(0, 0, 1, 1), UNKNOWN);
        k.blank();
        due(14, "unknown ahead of outside", k.hunk(1, 99, -1, -1), UNKNOWN);
        due(14, "at -1", k.hunk(0, -1, 1, 1), OUTSIDE);
        due(14, "at 15", k.hunk(0, 15, 1, 1), OUTSIDE);
        due(14, "at far", k.hunk(0, HIGH, 1, 1), OUTSIDE);
        due(14, "goes -2", k.hunk(0, 0, -2, 1), OUTSIDE);
        due(14, "goes 100", k.hunk(0, 0, 100, 1), OUTSIDE);
        due(14, "comes -2", k.hunk(0, 0, 1, -2), OUTSIDE);
        due(14, "comes 100", k.hunk(0, 0, 1, 100), OUTSIDE);
        due(14, "both none", k.hunk(0, 0, NONE, NONE), OUTSIDE);
        due(14, "no hunks yet", k.of(0, 0), 0);
        due(14, "goes and comes", k.hunk(0, 0, 0, 99), 1);
        due(14, "begins where the one ahead begins", k.hunk(0, 0, NONE, 5), OUTSIDE);
        due(14, "begins where the one ahead ends", k.hunk(0, 1, NONE, 5), OUTSIDE);
        due(14, "comes alone", k.hunk(0, 2, NONE, 5), 2);
        due(14, "touches one that takes none", k.hunk(0, 2, 5, NONE), OUTSIDE);
        due(14, "goes alone", k.hunk(0, 3, 5, NONE), 3);
        due(14, "touches one that goes", k.hunk(0, 4, 5, 5), OUTSIDE);
        due(14, "the same goes and comes", k.hunk(0, 5, 5, 5), 4);
        due(14, "at 14", k.hunk(0, 14, 7, NONE), 5);
        due(14, "behind all places", k.hunk(0, 14, 7, NONE), OUTSIDE);
        dueAll(14, "hunks", told(k, 0), 0, 1, 1, 0, 99, 2, 0, 1, 5, 3, 1, 0, 5, 5, 1, 1, 5, 5, 14, 1, 0, 7);
        hunkFull();
    }

    private static void hunkFull() {
        KeptVersions k = new KeptVersions();
        k.blank();
        for (int n = 1; n <= 10; n++) {
            due(14, "hunk " + n, k.hunk(0, n, NONE, n), n);
        }
        due(14, "outside ahead of full", k.hunk(0, 10, NONE, 1), OUTSIDE);
        due(14, "an eleventh", k.hunk(0, 11, NONE, 1), FULL);
        due(14, "still ten", k.of(0, 0), 10);
        version(k, NONE, NONE, fourteen(3));
        version(k, NONE, NONE);
        int all = k.patch(1, 0);
        int twice = k.together(all, all);
        due(14, "28 come", k.of(twice, 2), 28);
        due(14, "a 29th comes", k.hunk(twice, 5, NONE, 1), FULL);
        due(14, "a 29th comes, one goes", k.hunk(twice, 5, 1, 1), FULL);
        due(14, "none comes", k.hunk(twice, 5, 1, NONE), 2);
        int turned = k.turn(k.together(all, all));
        due(14, "28 go", k.of(turned, 1), 28);
        due(14, "behind all places, as 28 go", k.hunk(turned, 14, 1, NONE), OUTSIDE);
    }

    private static void of() {
        KeptVersions k = new KeptVersions();
        due(15, "unknown ahead of outside", k.of(0, 7), UNKNOWN);
        k.blank();
        k.hunk(0, 0, 1, 2);
        k.hunk(0, 3, 1, NONE);
        k.hunk(0, 6, NONE, 2);
        k.hunk(0, 8, NONE, 2);
        int[] want = {4, 2, 3, 12};
        for (int what = 0; what <= 3; what++) {
            due(15, "of(0, " + what + ")", k.of(0, what), want[what]);
        }
        due(15, "what 4", k.of(0, 4), OUTSIDE);
        due(15, "what -1", k.of(0, -1), OUTSIDE);
        due(15, "none", k.of(NONE, 0), UNKNOWN);
    }

    private static void hunkOf() {
        KeptVersions k = new KeptVersions();
        version(k, NONE, NONE, 1, 2, 3);
        version(k, NONE, NONE, 1, 8, 7, 6);
        k.patch(0, 1);
        due(16, "unknown patch", k.hunkOf(1, 0, 0), UNKNOWN);
        due(16, "unknown hunk", k.hunkOf(0, 1, 99), UNKNOWN);
        due(16, "hunk -1", k.hunkOf(0, -1, 0), UNKNOWN);
        int[][] want = {{0, 1}, {1, 2}, {2, 3}, {10, 2}, {11, 3}, {12, NONE}, {37, NONE}, {40, 8}, {42, 6}, {43, NONE}, {67, NONE},
            {3, OUTSIDE}, {9, OUTSIDE}, {38, OUTSIDE}, {39, OUTSIDE}, {68, OUTSIDE}, {-1, OUTSIDE}, {LOW, OUTSIDE}, {HIGH, OUTSIDE}};
        for (int[] w : want) {
            due(16, "hunkOf(0, 0, " + w[0] + ")", k.hunkOf(0, 0, w[0]), w[1]);
        }
        version(k, NONE, NONE, fourteen(4));
        version(k, NONE, NONE);
        int none = k.patch(2, 3);
        int all = k.together(none, none);
        due(16, "the last of 28 that go", k.hunkOf(all, 0, 37), 4);
        due(16, "the last of 28 that come", k.hunkOf(k.turn(all), 0, 67), 4);
    }

    private static void fits() {
        KeptVersions k = new KeptVersions();
        due(17, "unknown", k.fits(0), UNKNOWN);
        k.blank();
        due(17, "one without hunks fits an empty row", k.fits(0), 1);
        k.hunk(0, 1, 5, 6);
        k.hunk(0, 3, NONE, 7);
        setDesk(k, 4, 5, 4);
        due(17, "one that has none begins at the end", k.fits(0), 1);
        setDesk(k, 4, 5);
        due(17, "one that has none begins behind the end", k.fits(0), 0);
        setDesk(k, 4, 4, 5);
        due(17, "another line stands there", k.fits(0), 0);
        setDesk(k, 4);
        due(17, "no line stands there", k.fits(0), 0);
        k.blank();
        k.hunk(1, 0, NONE, 6);
        k.hunk(1, 2, 5, NONE);
        setDesk(k, 1, 2, 5);
        due(17, "places are those of the row ahead of all hunks", k.fits(1), 1);
        setDesk(k, 1, 2, 3, 5);
        due(17, "not moved by what the hunk ahead brings", k.fits(1), 0);
    }

    private static void lay() {
        KeptVersions k = new KeptVersions();
        due(18, "unknown", k.lay(0), UNKNOWN);
        k.blank();
        k.hunk(0, 0, NONE, 6);
        k.hunk(0, 2, 5, NONE);
        k.hunk(0, 4, 8, 9);
        setDesk(k, 1, 2, 5, 7, 8, 3);
        due(18, "laid", k.lay(0), 6);
        dueAll(18, "row", row(k), 6, 1, 2, 7, 9, 3);
        due(18, "does not fit", k.lay(0), STATE);
        dueAll(18, "row as it was", row(k), 6, 1, 2, 7, 9, 3);
        k.blank();
        k.hunk(1, 0, NONE, 6);
        setDesk(k, fourteen(2));
        due(18, "fifteen", k.lay(1), FULL);
        dueAll(18, "row as it was", row(k), fourteen(2));
        k.hunk(1, 13, 2, NONE);
        due(18, "fourteen in the end, though one comes ahead of one that goes", k.lay(1), 14);
        due(18, "what came", k.desk(0), 6);
        k.blank();
        k.hunk(2, 0, NONE, 6);
        k.hunk(2, 14, 3, NONE);
        setDesk(k, fourteen(2));
        due(18, "state is told ahead of full", k.lay(2), STATE);
    }

    private static void loose() {
        KeptVersions k = new KeptVersions();
        due(19, "unknown", k.loose(0), UNKNOWN);
        k.blank();
        due(19, "no hunks", k.loose(0), 0);
        k.hunk(0, 3, 5, 6);
        setDesk(k, 1, 5, 1, 1, 1, 5);
        due(19, "of two at like size the one below", k.loose(0), 2);
        dueAll(19, "row", row(k), 1, 6, 1, 1, 1, 5);
        due(19, "then the one above", k.loose(0), 2);
        dueAll(19, "row", row(k), 1, 6, 1, 1, 1, 6);
        due(19, "does not go", k.loose(0), STATE);
        setDesk(k, 5, 1, 1, 1, 5);
        due(19, "the nearer one, above", k.loose(0), 1);
        dueAll(19, "row", row(k), 5, 1, 1, 1, 6);
        looseOfMany(k);
        looseAtEnds();
    }

    private static void looseOfMany(KeptVersions k) {
        int p = k.blank();
        k.hunk(p, 0, 1, NONE);
        k.hunk(p, 2, 2, 3);
        // The first goes at 2 (d 2): then the second is looked for at 2 + 2 - 1 = 3, and found there.
        setDesk(k, 9, 9, 1, 9, 2);
        due(19, "what d was stays in the shift", k.loose(p), 2);
        dueAll(19, "row", row(k), 9, 9, 9, 3);
        // A line at least stands between: the 2 that follows at once is passed over.
        setDesk(k, 1, 2, 9, 2);
        due(19, "not at once behind", k.loose(p), 1);
        dueAll(19, "row", row(k), 2, 9, 3);
        setDesk(k, 2, 9, 1, 9);
        due(19, "not ahead of the hunk ahead", k.loose(p), STATE);
        dueAll(19, "row as it was", row(k), 2, 9, 1, 9);
        int q = k.blank();
        k.hunk(q, 0, 1, 2);
        k.hunk(q, 2, 2, 4);
        setDesk(k, 1, 9);
        due(19, "lines that the hunk ahead brought are behind it", k.loose(q), STATE);
        int r = k.blank();
        k.hunk(r, 1, 5, NONE);
        k.hunk(r, 4, 6, NONE);
        // d -1, then looked for at 4 - 1 - 1 = 2: d +1.
        setDesk(k, 5, 1, 1, 1, 6);
        due(19, "sizes are summed, not what they come to", k.loose(r), 2);
        dueAll(19, "row", row(k), 1, 1, 1);
        looseOfLongOnes();
    }

    private static void looseOfLongOnes() {
        KeptVersions k = new KeptVersions();
        version(k, NONE, NONE, 1, 2, 3, 4, 5);
        version(k, NONE, NONE, 1, 7, 8, 9, 4);
        int p = k.patch(0, 1);
        // Two go for three, and one goes at the end: then looked for at 4 + 2 + 1 = 7, and found there.
        setDesk(k, 2, 0, 0, 2, 3, 0, 5);
        due(19, "all lines of a hunk stand there", k.loose(p), 2);
        dueAll(19, "row", row(k), 2, 0, 0, 7, 8, 9, 0);
    }

    private static void looseAtEnds() {
        KeptVersions k = new KeptVersions();
        k.blank();
        k.hunk(0, 9, NONE, 5);
        setDesk(k, 1, 2);
        due(19, "one that has none goes at the end", k.loose(0), 7);
        dueAll(19, "row", row(k), 1, 2, 5);
        k.blank();
        k.hunk(1, 0, NONE, 5);
        k.hunk(1, 1, NONE, 6);
        setDesk(k);
        due(19, "no line between two", k.loose(1), STATE);
        setDesk(k, 3);
        due(19, "one line between two", k.loose(1), 0);
        dueAll(19, "row", row(k), 5, 3, 6);
        setDesk(k, fourteen(1));
        due(19, "fifteen", k.loose(0), FULL);
        dueAll(19, "row as it was", row(k), fourteen(1));
        k.hunk(0, 11, 1, NONE);
        due(19, "fourteen in the end", k.loose(0), 0);
        due(19, "lines", k.count(1), 14);
        k.blank();
        k.hunk(2, 0, NONE, 6);
        k.hunk(2, 2, 7, NONE);
        due(19, "state is told ahead of full", k.loose(2), STATE);
    }

    private static void turn() {
        KeptVersions k = new KeptVersions();
        due(20, "unknown", k.turn(0), UNKNOWN);
        version(k, NONE, NONE, 1, 2, 3, 4);
        version(k, NONE, NONE, 9, 8, 1, 3, 7, 4);
        k.patch(0, 1);
        due(20, "turned", k.turn(0), 1);
        // ahead: 0: 9 8 come; 1: 2 goes; 3: 7 comes. Behind: at 0, at 3, at 4.
        dueAll(20, "hunks", told(k, 1), 0, 2, 0, 9, 8, 3, 0, 1, 2, 4, 1, 0, 7);
        dueAll(20, "twice", told(k, k.turn(1)), told(k, 0));
        k.take(1);
        due(20, "leads back", k.lay(1), 4);
        dueAll(20, "row", row(k), 1, 2, 3, 4);
        for (int n = 3; n < 12; n++) {
            k.blank();
        }
        due(20, "full", k.turn(0), FULL);
        due(20, "unknown ahead of full", k.turn(12), UNKNOWN);
    }

    /** A patch of hunks told as {at, goes, comes}. */
    private static int made(KeptVersions k, int[]... hunks) {
        int p = k.blank();
        for (int[] h : hunks) {
            k.hunk(p, h[0], h[1], h[2]);
        }
        return p;
    }

    private static int[] h(int at, int goes, int comes) {
        return new int[] {at, goes, comes};
    }

    private static void togetherIs(String what, int[][] p, int[][] q, int... want) {
        KeptVersions k = new KeptVersions();
        int first = made(k, p);
        int second = made(k, q);
        due(21, what, k.together(first, second), 2);
        dueAll(21, what, told(k, 2), want);
    }

    private static void together() {
        togetherIs("none and none", new int[][] {}, new int[][] {});
        togetherIs("far ones, the second moved back", new int[][] {h(0, NONE, 1)}, new int[][] {h(4, 7, NONE)},
            0, 0, 1, 1, 3, 1, 0, 7);
        togetherIs("far ones, the second first", new int[][] {h(5, NONE, 1)}, new int[][] {h(2, 7, NONE)},
            2, 1, 0, 7, 5, 0, 1, 1);
        togetherIs("one line changed twice", new int[][] {h(2, 1, 2)}, new int[][] {h(2, 2, 3)}, 2, 1, 1, 1, 3);
        togetherIs("changed and back is left out", new int[][] {h(2, 1, 2)}, new int[][] {h(2, 2, 1)});
        togetherIs("came and goes is left out", new int[][] {h(2, NONE, 2)}, new int[][] {h(2, 2, NONE)});
        togetherIs("goes and came again is left out", new int[][] {h(2, 2, NONE)}, new int[][] {h(2, NONE, 2)});
        togetherIs("begins where it ends", new int[][] {h(2, 1, 2)}, new int[][] {h(3, 8, 9)}, 2, 2, 2, 1, 8, 2, 9);
        togetherIs("ends where it begins", new int[][] {h(2, 1, 2)}, new int[][] {h(1, 8, 9)}, 1, 2, 2, 8, 1, 9, 2);
        togetherIs("comes ahead of what came", new int[][] {h(2, NONE, 2)}, new int[][] {h(2, NONE, 3)}, 2, 0, 2, 3, 2);
        togetherIs("comes behind what came", new int[][] {h(2, NONE, 2)}, new int[][] {h(3, NONE, 3)}, 2, 0, 2, 2, 3);
        togetherIs("goes ahead of what went", new int[][] {h(2, 1, NONE)}, new int[][] {h(1, 8, NONE)}, 1, 2, 0, 8, 1);
        togetherIs("goes behind what went", new int[][] {h(2, 1, NONE)}, new int[][] {h(2, 8, NONE)}, 2, 2, 0, 1, 8);
        togetherIs("a line between", new int[][] {h(2, 1, 2)}, new int[][] {h(4, 8, 9)}, 2, 1, 1, 1, 2, 4, 1, 1, 8, 9);
        togetherIs("by way of another", new int[][] {h(0, 1, 2), h(2, 3, 4)}, new int[][] {h(1, 8, NONE)},
            0, 3, 2, 1, 8, 3, 2, 4);
        // In the row between: what came stands at 0, a line, what went was at 2.
        togetherIs("by way of two", new int[][] {h(0, NONE, 5), h(1, 6, NONE)}, new int[][] {h(1, 7, NONE), h(3, 9, NONE)},
            0, 2, 1, 7, 6, 5, 3, 1, 0, 9);
        togetherOfLongOnes();
        togetherIsBoth();
    }

    private static void togetherOfLongOnes() {
        KeptVersions k = new KeptVersions();
        version(k, NONE, NONE, 1, 2, 3, 4, 5, 6);
        version(k, NONE, NONE, 1, 20, 21, 3, 4, 6);
        version(k, NONE, NONE, 1, 20, 30, 6);
        int p = k.patch(0, 1);
        int q = k.patch(1, 2);
        int both = k.together(p, q);
        // p: at 1: 2 to 20 21; at 4: 5 goes. q: at 2: 21 3 4 to 30.
        dueAll(21, "hunks", told(k, both), 1, 4, 2, 2, 3, 4, 5, 20, 30);
        k.take(0);
        due(21, "laid", k.lay(both), 4);
        dueAll(21, "row", row(k), 1, 20, 30, 6);
        int there = k.together(q, k.turn(q));
        due(21, "there and back", k.of(there, 0), 0);
    }

    /** Where one hunk's lines that go and come are the same from the start, it is left out, too. */
    private static void togetherIsBoth() {
        togetherIs("the first one's idle hunk", new int[][] {h(2, 1, 1)}, new int[][] {h(8, 4, 5)}, 8, 1, 1, 4, 5);
        togetherIs("the second one's idle hunk", new int[][] {h(2, 1, 3)}, new int[][] {h(8, 4, 4)}, 2, 1, 1, 1, 3);
    }

    private static void togetherRefused() {
        KeptVersions k = new KeptVersions();
        int p = made(k, h(2, 1, 2));
        due(21, "unknown first", k.together(1, p), UNKNOWN);
        due(21, "unknown second", k.together(p, 1), UNKNOWN);
        int q = made(k, h(2, 3, 4));
        due(21, "takes another line than came", k.together(p, q), OUTSIDE);
        togetherOfOtherLines();
        int eleven = made(k, h(0, NONE, 1), h(2, NONE, 1), h(4, NONE, 1), h(6, NONE, 1), h(8, NONE, 1), h(10, NONE, 1));
        // In the row between the six stand at 0, 3, 6, 9, 12, 15.
        int more = made(k, h(2, NONE, 7), h(5, NONE, 7), h(8, NONE, 7), h(11, NONE, 7));
        int last = k.together(eleven, more);
        due(21, "ten hunks", k.of(last, 0), 10);
        k.hunk(eleven, 14, 1, 2);
        due(21, "eleven hunks", k.together(eleven, more), FULL);
        version(k, NONE, NONE, fourteen(5));
        version(k, NONE, NONE);
        int none = k.patch(0, 1);
        int twice = k.together(none, none);
        due(21, "28 go", k.of(twice, 1), 28);
        due(21, "42 go", k.together(twice, none), FULL);
        int back = k.turn(twice);
        due(21, "42 come", k.together(k.turn(none), back), FULL);
        due(21, "28 go and come again", k.of(k.together(twice, back), 0), 0);
        int taken = k.count(2);
        while (taken < 12) {
            taken = k.blank() + 1;
        }
        due(21, "full", k.together(none, none), FULL);
        due(21, "outside is told ahead of full", k.together(p, q), OUTSIDE);
        due(21, "count", k.count(2), 12);
    }

    private static void togetherOfOtherLines() {
        KeptVersions k = new KeptVersions();
        version(k, NONE, NONE);
        version(k, NONE, NONE, 1, 2, 3);
        int p = k.patch(0, 1);
        due(21, "the third that came", k.together(p, made(k, h(2, 3, NONE))), 2);
        dueAll(21, "hunks", told(k, 2), 0, 0, 2, 1, 2);
        due(21, "another one than the third", k.together(p, made(k, h(2, 2, NONE))), OUTSIDE);
        due(21, "one behind what came may be any", k.together(p, made(k, h(3, 2, NONE))), 5);
        dueAll(21, "hunks", told(k, 5), 0, 1, 3, 2, 1, 2, 3);
    }

    private static void swap() {
        KeptVersions k = new KeptVersions();
        int p = made(k, h(1, 5, NONE), h(6, NONE, 6));
        due(22, "unknown first", k.swap(1, p), UNKNOWN);
        due(22, "unknown second", k.swap(p, 1), UNKNOWN);
        // In the row between p's stand at 1 (none) and at 5 (one line).
        int q = made(k, h(3, 9, NONE), h(7, NONE, 8), h(9, 2, 3));
        int first = k.swap(p, q);
        due(22, "swapped", first, 2);
        due(22, "count", k.count(2), 4);
        dueAll(22, "q's", told(k, 2), 4, 1, 0, 9, 7, 0, 1, 8, 9, 1, 1, 2, 3);
        dueAll(22, "p's", told(k, 3), 1, 1, 0, 5, 5, 0, 1, 6);
        setDesk(k, 0, 5, 0, 0, 9, 1, 1, 1, 1, 2);
        k.lay(p);
        k.lay(q);
        int[] one = row(k);
        setDesk(k, 0, 5, 0, 0, 9, 1, 1, 1, 1, 2);
        due(22, "q's first", k.lay(2), 10);
        due(22, "then p's", k.lay(3), 10);
        dueAll(22, "both ways lead to one row", row(k), one);
        int near = made(k, h(1, NONE, 4));
        due(22, "touches where it went", k.swap(p, near), STATE);
        int at = made(k, h(6, NONE, 4));
        due(22, "touches the end of what came", k.swap(p, at), STATE);
        int with = made(k, h(5, 6, NONE));
        due(22, "takes what came", k.swap(p, with), STATE);
        swapFull();
    }

    private static void swapFull() {
        KeptVersions k = new KeptVersions();
        int p = made(k, h(1, 5, NONE));
        int q = made(k, h(3, 9, NONE));
        for (int n = 2; n < 10; n++) {
            k.blank();
        }
        due(22, "the last two", k.swap(p, q), 10);
        due(22, "full", k.swap(p, q), FULL);
        due(22, "state is told ahead of full", k.swap(p, p), STATE);
        KeptVersions one = new KeptVersions();
        p = made(one, h(1, 5, NONE));
        q = made(one, h(3, 9, NONE));
        for (int n = 2; n < 11; n++) {
            one.blank();
        }
        due(22, "room for one alone", one.swap(p, q), FULL);
        due(22, "none is made", one.count(2), 11);
        due(22, "blank ones swap", one.swap(2, 3), FULL);
    }

    private static void clash() {
        KeptVersions k = new KeptVersions();
        version(k, NONE, NONE, 1, 2, 3, 4, 5, 6);
        version(k, NONE, NONE, 9, 2, 3, 4, 5, 8);
        version(k, NONE, NONE, 9, 2, 3, 4, 5, 7);
        version(k, NONE, NONE, 1, 2, 30, 31, 5, 6);
        version(k, NONE, NONE, 1, 2, 3, 50, 4, 5, 6);
        version(k, NONE, NONE, 1, 7, 2, 3, 4, 5, 6);
        version(k, NONE, NONE, 60, 61, 62, 63, 64, 65);
        due(23, "one alike, one clashes", k.clash(0, 1, 2), 1);
        due(23, "just alike", k.clash(0, 1, 1), 0);
        due(23, "far from each other", k.clash(0, 1, 3), 0);
        due(23, "comes within what goes", k.clash(0, 4, 3), 1);
        due(23, "goes around where one comes", k.clash(0, 3, 4), 1);
        due(23, "begins where the other ends", k.clash(0, 5, 1), 1);
        due(23, "two of x with one of y", k.clash(0, 1, 6), 2);
        due(23, "one of x with two of y", k.clash(0, 6, 1), 1);
        due(23, "the base itself", k.clash(0, 0, 6), 0);
        version(k, NONE, NONE, 1, 7, 8, 2, 3, 4, 5, 6);
        due(23, "one comes, or two that begin with it", k.clash(0, 5, 7), 1);
        version(k, NONE, NONE, 1, 8, 3, 4, 5, 6);
        version(k, NONE, NONE, 1, 8, 4, 5, 6);
        due(23, "one goes, or two that begin with it", k.clash(0, 8, 9), 1);
        due(23, "unknown b", k.clash(10, 0, 1), UNKNOWN);
        due(23, "unknown x", k.clash(0, 10, 1), UNKNOWN);
        due(23, "unknown y", k.clash(0, 1, NONE), UNKNOWN);
    }

    private static void join() {
        KeptVersions k = new KeptVersions();
        version(k, NONE, NONE, 1, 2, 3, 4, 5, 6);
        version(k, NONE, NONE, 9, 2, 3, 4, 5, 6, 8);
        version(k, NONE, NONE, 9, 2, 4, 5, 6);
        version(k, NONE, NONE, 7, 2, 3, 4, 5, 6);
        due(24, "joined, like ones once", k.join(0, 1, 2), 6);
        dueAll(24, "row", row(k), 9, 2, 4, 5, 6, 8);
        due(24, "the other way round", k.join(0, 2, 1), 6);
        dueAll(24, "row", row(k), 9, 2, 4, 5, 6, 8);
        due(24, "clashes", k.join(0, 1, 3), STATE);
        due(24, "unknown b", k.join(4, 1, 2), UNKNOWN);
        due(24, "unknown x", k.join(0, 4, 2), UNKNOWN);
        due(24, "unknown y", k.join(0, 1, NONE), UNKNOWN);
        dueAll(24, "the desk as it was", row(k), 9, 2, 4, 5, 6, 8);
        due(24, "with the base", k.join(0, 0, 3), 6);
        dueAll(24, "row", row(k), 7, 2, 3, 4, 5, 6);
        version(k, NONE, NONE, 1, 10, 11, 12, 13, 14, 2, 3, 4, 5, 6);
        version(k, NONE, NONE, 1, 2, 3, 20, 21, 22, 23, 4, 5, 6);
        setDesk(k, 1);
        due(24, "fifteen", k.join(0, 4, 5), FULL);
        dueAll(24, "the desk as it was", row(k), 1);
        version(k, NONE, NONE, 1, 2, 3, 20, 21, 22, 4, 5, 6);
        due(24, "fourteen", k.join(0, 4, 6), 14);
        dueAll(24, "row", row(k), 1, 10, 11, 12, 13, 14, 2, 3, 20, 21, 22, 4, 5, 6);
    }

    private static void brought() {
        KeptVersions k = new KeptVersions();
        version(k, NONE, NONE, 1, 2, 3);
        version(k, NONE, NONE, 3, 4, 5);
        version(k, 0, 1, 1, 3, 4, 6);
        version(k, 1, 0, 1, 3, 4, 6);
        version(k, 2, NONE, 6, 7);
        version(k, NONE, NONE, 6, 7);
        int[][] want = {{0, 0, 0}, {1, 1, 1}, {0, 0, 1, 2}, {0, 1, 1, 3}, {2, 4}, {5, 5}};
        for (int v = 0; v < want.length; v++) {
            for (int i = 0; i < want[v].length; i++) {
                due(25, "brought(" + v + ", " + i + ")", k.brought(v, i), want[v][i]);
            }
        }
        due(25, "unknown version", k.brought(6, 0), UNKNOWN);
        due(25, "unknown line", k.brought(0, 3), UNKNOWN);
        due(25, "line -1", k.brought(0, -1), UNKNOWN);
    }

    private static void share() {
        KeptVersions k = new KeptVersions();
        version(k, NONE, NONE, 1, 2, 3);
        version(k, NONE, NONE, 3, 4, 5);
        version(k, 0, 1, 1, 3, 4, 6);
        due(26, "of the first parent", k.share(2, 0), 2);
        due(26, "of the second", k.share(2, 1), 1);
        due(26, "its own", k.share(2, 2), 1);
        due(26, "of a child", k.share(0, 2), 0);
        due(26, "unknown version", k.share(3, 0), UNKNOWN);
        due(26, "unknown by", k.share(0, 3), UNKNOWN);
        due(26, "none", k.share(0, NONE), UNKNOWN);
    }

    /** Three versions, each of six lines and one more than the one ahead. */
    private static KeptVersions growing() {
        KeptVersions k = new KeptVersions();
        version(k, NONE, NONE, 1, 2, 3, 4, 5, 6);
        version(k, 0, NONE, 1, 2, 3, 4, 5, 6, 7);
        version(k, 1, NONE, 1, 2, 3, 4, 5, 6, 7, 8);
        return k;
    }

    private static void store() {
        // Whole: 7, 8, 9. Patches: 0 to 1: 4, 1 to 2: 4, 0 to 2: 5; back: 1 to 0, 2 to 1, 2 to 0: 3 each.
        KeptVersions k = growing();
        // From 2: 9 + 3 + 3, and the sum 9 + 12 + 12; from 0 by 1: 7 + 4 + 4 = 15, too, but 7 + 11 + 15 = 33, too;
        // from 1: 8 + 3 + 4 = 15, and 8 + 11 + 12 = 31.
        due(27, "room", k.store(3, 99, 0), 15);
        due(27, "sum", k.store(3, 99, 1), 31);
        int[] want = {1, NONE, 1, -2, -2, -2};
        int[] remade = {11, 8, 12, -2, -2, -2};
        for (int i = 0; i < 6; i++) {
            due(27, "from " + i, k.store(3, 99, 10 + i), want[i]);
            due(27, "remade " + i, k.store(3, 99, 20 + i), remade[i]);
        }
        // Within 11: 1 whole, 0 from it; 2 is whole: 8 + 3 + 9 = 20; or 0 whole, 1 from it (11), 2 whole: 20, too.
        // Sums 11 + 8 + 9 = 28 and 7 + 11 + 9 = 27.
        due(27, "room within 11", k.store(3, 11, 0), 20);
        due(27, "sum within 11", k.store(3, 11, 1), 27);
        due(27, "bound as the greatest whole one", k.store(3, 9, 0), 24);
        due(27, "none", k.store(3, 8, 0), NONE);
        due(27, "none, sum", k.store(3, 8, 1), NONE);
        due(27, "none, from", k.store(3, 8, 10), -2);
        due(27, "none, remade", k.store(3, 8, 20), -2);
        due(27, "of two within 8", k.store(2, 8, 0), 15);
        due(27, "done", k.count(3), 22);
        storeRefused();
        storeByAsked();
    }

    private static void storeRefused() {
        KeptVersions k = growing();
        int[][] outside = {{0, 9, 0}, {4, 9, 0}, {7, 9, 0}, {-1, 9, 0}, {1, 0, 0}, {1, 1000, 0}, {1, -1, 0}, {1, 9, -1}, {1, 9, 2},
            {1, 9, 9}, {1, 9, 16}, {1, 9, 19}, {1, 9, 26}, {LOW, 9, 0}, {1, HIGH, 0}, {1, 9, HIGH}};
        for (int[] o : outside) {
            due(27, "store(" + o[0] + ", " + o[1] + ", " + o[2] + ")", k.store(o[0], o[1], o[2]), OUTSIDE);
        }
        due(27, "refused ones are not counted", k.count(3), 0);
        for (int n = 1; n <= 30; n++) {
            int got = n % 3 == 0 ? k.store(1, 999, 0) : n % 3 == 1 ? k.worst(1, 1, 0) : k.saved(1, 1, 1, 0);
            due(27, "done " + n, got, n % 3 == 0 ? 7 : NONE);
        }
        due(27, "the 31st store", k.store(1, 9, 0), STATE);
        due(28, "the 31st worst", k.worst(1, 9, 0), STATE);
        due(29, "the 31st saved", k.saved(1, 9, 9, 0), STATE);
        due(27, "outside ahead of state", k.store(1, 9, 2), OUTSIDE);
        due(28, "outside ahead of state", k.worst(1, 9, 2), OUTSIDE);
        due(29, "outside ahead of state", k.saved(1, 9, 9, 2), OUTSIDE);
        due(30, "done", k.count(3), 30);
        KeptVersions seven = new KeptVersions();
        for (int n = 0; n < 7; n++) {
            seven.keep(NONE, NONE);
        }
        due(27, "six", seven.store(6, 1, 0), 6);
        due(27, "seven", seven.store(7, 1, 0), OUTSIDE);
    }

    private static void storeByAsked() {
        KeptVersions k = growing();
        k.asked(0, 9);
        // Sums of the stores of room 15: from 1: 99 + 8 + 12; from 0: 63 + 11 + 15; from 2: 108 + 12 + 9.
        due(27, "sum", k.store(3, 99, 1), 89);
        due(27, "0 is whole", k.store(3, 99, 10), NONE);
        due(27, "2 from 1", k.store(3, 99, 12), 1);
        k.asked(0, 0);
        k.asked(1, 0);
        due(27, "asked for 2 alone", k.store(3, 99, 1), 9);
        due(27, "2 is whole", k.store(3, 99, 12), NONE);
        // Like in room and sum: 0 from 1, 1 from 2; or 0 from 2, 1 from 2; 0 from 1 is the least.
        due(27, "0 from the least", k.store(3, 99, 10), 1);
        due(27, "1 from 2", k.store(3, 99, 11), 2);
    }

    private static void storeOfLikeOnes() {
        KeptVersions k = new KeptVersions();
        for (int n = 0; n < 6; n++) {
            version(k, NONE, NONE, 4, 4, 4);
        }
        // One is whole (4), the others cost 1 each and are remade for 5: whoever is whole, all is like; 0 first.
        due(27, "room", k.store(6, 999, 0), 9);
        due(27, "sum", k.store(6, 999, 1), 29);
        due(27, "0 is whole", k.store(6, 999, 10), NONE);
        for (int i = 1; i < 6; i++) {
            due(27, i + " from 0", k.store(6, 999, 10 + i), 0);
        }
        k.asked(3, 2);
        due(27, "3 is asked more", k.store(6, 999, 13), NONE);
        due(27, "0 from 3", k.store(6, 999, 10), 3);
        due(27, "within 4", k.store(6, 4, 0), 24);
        for (int i = 0; i < 6; i++) {
            k.asked(i, 0);
        }
        due(27, "none asked", k.store(6, 999, 1), 0);
        due(27, "0 is whole", k.store(6, 999, 10), NONE);
        due(27, "5 from 0", k.store(6, 999, 15), 0);
        due(27, "remade", k.store(6, 999, 25), 5);
    }

    private static void worst() {
        KeptVersions k = growing();
        // 1 is whole, 0 and 2 come from it.
        due(28, "piece", k.worst(3, 99, 0), 1);
        due(28, "lost", k.worst(3, 99, 1), 3);
        // 0, 1, 2 whole.
        due(28, "of like ones the least", k.worst(3, 9, 0), 0);
        due(28, "lost", k.worst(3, 9, 1), 1);
        k.asked(2, 5);
        due(28, "by asked", k.worst(3, 9, 0), 2);
        due(28, "lost", k.worst(3, 9, 1), 5);
        due(28, "no store", k.worst(3, 8, 0), NONE);
        due(28, "no store", k.worst(3, 8, 1), NONE);
        due(28, "what 2", k.worst(3, 8, 2), OUTSIDE);
        due(28, "what -1", k.worst(3, 8, -1), OUTSIDE);
        due(28, "n 0", k.worst(0, 8, 0), OUTSIDE);
        due(28, "n 4", k.worst(4, 8, 0), OUTSIDE);
        due(28, "bound 0", k.worst(3, 0, 0), OUTSIDE);
        due(28, "bound 1000", k.worst(3, 1000, 0), OUTSIDE);
        due(28, "done", k.count(3), 8);
    }

    private static void saved() {
        KeptVersions k = growing();
        // 1 is whole (8), 0 (3) and 2 (4) come from it: with a copy of 1 one alone is lost.
        due(29, "room for all", k.saved(3, 99, 99, 0), 1);
        due(29, "lost then", k.saved(3, 99, 99, 1), 1);
        due(29, "room for the whole one just so", k.saved(3, 99, 8, 0), 1);
        due(29, "room for patches: the lesser one", k.saved(3, 99, 7, 0), 0);
        due(29, "lost all the same", k.saved(3, 99, 7, 1), 3);
        due(29, "room for none", k.saved(3, 99, 2, 0), NONE);
        due(29, "room for none", k.saved(3, 99, 2, 1), NONE);
        due(29, "r 0", k.saved(3, 99, 0, 0), NONE);
        due(29, "no store", k.saved(3, 8, 99, 0), NONE);
        due(29, "no store", k.saved(3, 8, 99, 1), NONE);
        due(29, "one alone", k.saved(1, 99, 99, 1), 0);
        due(29, "one alone", k.saved(1, 99, 99, 0), 0);
        int done = k.count(3);
        int[][] outside = {{0, 9, 9, 0}, {4, 9, 9, 0}, {1, 0, 9, 0}, {1, 1000, 9, 0}, {1, 9, -1, 0}, {1, 9, 100, 0}, {1, 9, 9, 2}, {1, 9, 9, -1}};
        for (int[] o : outside) {
            due(29, "saved(" + o[0] + ", " + o[1] + ", " + o[2] + ", " + o[3] + ")", k.saved(o[0], o[1], o[2], o[3]), OUTSIDE);
        }
        due(29, "refused ones are not counted", k.count(3), done);
        KeptVersions like = new KeptVersions();
        for (int n = 0; n < 3; n++) {
            version(like, NONE, NONE, n, n, n);
        }
        // All whole, of like room, and with any copy one is lost.
        due(29, "of like ones the least", like.saved(3, 99, 99, 0), 0);
        like.asked(1, 3);
        due(29, "what is asked most", like.saved(3, 99, 99, 0), 1);
    }

    private static void count() {
        KeptVersions k = growing();
        k.drop(0);
        k.blank();
        k.blank();
        k.store(1, 9, 0);
        k.worst(1, 9, 0);
        k.saved(1, 9, 1, 0);
        k.store(2, 9, 0);
        due(30, "versions", k.count(0), 3);
        due(30, "lines of the desk", k.count(1), 7);
        due(30, "patches", k.count(2), 2);
        due(30, "stores done", k.count(3), 4);
        due(30, "what 4", k.count(4), OUTSIDE);
        due(30, "what -1", k.count(-1), OUTSIDE);
    }

    private static void digest() {
        KeptVersions k = new KeptVersions();
        version(k, NONE, NONE, 1, 2);
        version(k, 0, NONE, 1, 3);
        k.asked(1, 4);
        k.patch(0, 1);
        k.blank();
        k.store(1, 9, 0);
        setDesk(k, 7);
        int[] numbers = {7, 2, -1, -1, 1, 3, 1, 2, 2, 0, -1, 4, 3, 1, 3, 1, 1, 1, 4, 1, 1, 1, 2, 3, 0, 0, 0, 1, 4, 4, 2, 1, 2, 1};
        long h = 271;
        for (int n : numbers) {
            h = 31 * h + n;
        }
        due(31, "digest()", k.digest(), h);
        due(31, "again", k.digest(), h);
    }
}
