import java.math.BigInteger;

/**
 * Promises 30 and 31, what is told of all: a test for each sentence, named after its promise.
 */
public final class ToldTest extends Checks {
    public static void main(String[] args) {
        runAll(ToldTest.class, 30, 31);
    }

    // ---- 30: "How many: 0 VERSIONS, 1 LINES of THE DESK, 2 PATCHES, 3 how often store() and so on were done. OUTSIDE."

    static void promise30Versions() {
        KeptVersions k = new KeptVersions();
        for (int n = 0; n < 10; n++) {
            due("versions", k.count(0), n);
            k.keep(NONE, NONE);
        }
        k.keep(NONE, NONE);
        due("at most", k.count(0), 10);
    }

    static void promise30LinesOfTheDesk() {
        KeptVersions k = new KeptVersions();
        for (int n = 0; n < 14; n++) {
            due("lines", k.count(1), n);
            k.line(0, n);
        }
        k.line(0, 14);
        due("at most", k.count(1), 14);
        k.drop(3);
        due("behind a drop", k.count(1), 13);
        k.take(NONE);
        due("emptied", k.count(1), 0);
    }

    static void promise30Patches() {
        KeptVersions k = withVersions(row(1));
        k.blank();
        k.patch(0, 0);
        k.turn(0);
        k.together(0, 1);
        due("one for each", k.count(2), 4);
        k.swap(0, 1);
        due("two by swap()", k.count(2), 6);
        fillPatches(k, 12);
        k.blank();
        due("at most", k.count(2), 12);
    }

    static void promise30HowOftenStoresWereDone() {
        KeptVersions k = withVersions(row(1));
        k.store(1, 9, 0);
        due("by store()", k.count(3), 1);
        k.worst(1, 9, 0);
        due("by worst()", k.count(3), 2);
        k.saved(1, 9, 1, 0);
        due("by saved()", k.count(3), 3);
        k.store(1, 1, 0);
        k.worst(1, 1, 0);
        k.saved(1, 1, 0, 0);
        due("though there was none", k.count(3), 6);
        k.store(2, 9, 0);
        k.worst(1, 0, 0);
        k.saved(1, 9, 1, 2);
        due("not by refused ones", k.count(3), 6);
        for (int n = 6; n < 33; n++) {
            k.store(1, 9, 0);
        }
        due("at most", k.count(3), 30);
    }

    static void promise30Outside() {
        KeptVersions k = new KeptVersions();
        refused(k, OUTSIDE, () -> k.count(-1), () -> k.count(4), () -> k.count(LOW), () -> k.count(HIGH));
    }

    // ---- 31: "h is 271, then for each of these numbers, in order, 31 times h, and it (as longs, wrapping)"

    private static void digestIs(String what, KeptVersions k, int... numbers) {
        BigInteger h = BigInteger.valueOf(271);
        for (int n : numbers) {
            h = h.multiply(BigInteger.valueOf(31)).add(BigInteger.valueOf(n));
        }
        due(what, k.digest(), h.longValue());
        due(what + ", again", k.digest(), h.longValue());
    }

    static void promise31OfANewObject() {
        due("digest", new KeptVersions().digest(), 271L * 31 * 31 * 31 * 31);
    }

    static void promise31LinesOfTheDesk() {
        digestIs("lines", withDesk(7, 0, 99), 7, 0, 99, 0, 3, 0, 0);
    }

    static void promise31WrapsAsLongs() {
        // 271 times 31 to the power of 18 is far beyond what a long holds.
        int[] numbers = {99, 99, 99, 99, 99, 99, 99, 99, 99, 99, 99, 99, 99, 99, 0, 14, 0, 0};
        BigInteger h = BigInteger.valueOf(271);
        for (int n : numbers) {
            h = h.multiply(BigInteger.valueOf(31)).add(BigInteger.valueOf(n));
        }
        due("whether it is beyond a long", h.bitLength() > 64 ? 1 : 0, 1);
        digestIs("wrapped", withDesk(repeated(14, 99)), numbers);
    }

    static void promise31Versions() {
        KeptVersions k = withVersions(row(1, 2));
        k.take(NONE);
        digestIs("one", k, 2, NONE, NONE, 1, 3, 1, 2, 1, 0, 0, 0);
        k.asked(0, 4);
        digestIs("asked", k, 2, NONE, NONE, 4, 3, 1, 2, 1, 0, 0, 0);
        k.keep(0, NONE);
        digestIs("an empty one", k, 2, NONE, NONE, 4, 3, 1, 2, 0, 0, NONE, 1, 1, 3, 5, 2, 0, 0, 0);
    }

    static void promise31Patches() {
        KeptVersions k = withPatches(hunks(h(1, 5, 6), h(4, NONE, 8)), hunks());
        digestIs("two hunks, and none", k, 2, 1, 2, 7, 1, 1, 1, 5, 6, 4, 0, 1, 8, 0, 0, 0, 1, 0, 0, 2, 0);
    }

    static void promise31RoomOfDifferencesOfEachTwoBothWays() {
        KeptVersions k = withVersions(row(1), row(1, 2), row());
        int[] versions = {1, NONE, NONE, 1, 2, 1, 2, NONE, NONE, 1, 3, 1, 2, 0, NONE, NONE, 1, 1};
        // 0 to 1, 0 to 2; 1 to 0, 1 to 2; 2 to 0, 2 to 1.
        int[] rooms = {4, 3, 3, 3, 4, 5};
        int[] all = new int[versions.length + rooms.length + 4];
        System.arraycopy(versions, 0, all, 0, versions.length);
        System.arraycopy(rooms, 0, all, versions.length, rooms.length);
        all[all.length - 4] = 3;
        digestIs("three", k, all);
    }

    static void promise31RoomOfDifferencesOfVersionsWithLikeRowsToo() {
        KeptVersions k = withVersions(row(), row());
        digestIs("two empty ones", k, 0, NONE, NONE, 1, 1, 0, NONE, NONE, 1, 1, 1, 1, 2, 0, 0, 0);
    }

    static void promise31Counts() {
        KeptVersions k = withVersions(row());
        k.blank();
        k.store(1, 9, 0);
        k.store(1, 9, 0);
        k.line(0, 5);
        digestIs("counts", k, 5, 0, NONE, NONE, 1, 1, 0, 0, 0, 1, 1, 1, 1, 2);
    }

    static void promise31OfAllAtOnceAndFull() {
        KeptVersions k = withDesk(rising(14, 86));
        int[] all = new int[1000];
        int n = 0;
        for (int i = 0; i < 14; i++) {
            all[n++] = 86 + i;
        }
        for (int version = 0; version < 10; version++) {
            k.keep(version - 1, NONE);
            for (int number : row(14, version - 1, NONE, 1, 15)) {
                all[n++] = number;
            }
            for (int i = 0; i < 14; i++) {
                all[n++] = 86 + i;
            }
        }
        for (int patch = 0; patch < 12; patch++) {
            made(k, h(0, patch, 50), h(14, NONE, 60));
            for (int number : row(2, 1, 2, 7, 0, 1, 1, patch, 50, 14, 0, 1, 60)) {
                all[n++] = number;
            }
        }
        for (int pair = 0; pair < 90; pair++) {
            all[n++] = 1;
        }
        for (int time = 0; time < 30; time++) {
            k.store(1, 1, 0);
        }
        for (int number : row(10, 14, 12, 30)) {
            all[n++] = number;
        }
        digestIs("full", k, java.util.Arrays.copyOf(all, n));
    }

    static void promise31TellingChangesNothing() {
        KeptVersions k = withVersions(row(1, 2), row(2, 3));
        k.patch(0, 1);
        k.take(0);
        long before = k.digest();
        k.desk(0);
        k.text(0, 0);
        k.about(0, 0);
        k.differ(0, 1, 4);
        k.kept(0, 1, 0);
        k.of(0, 3);
        k.hunkOf(0, 0, 0);
        k.fits(0);
        k.clash(0, 1, 0);
        k.brought(1, 0);
        k.share(1, 0);
        k.count(0);
        due("whether telling changes something", k.digest() == before ? 0 : 1, 0);
    }
}
