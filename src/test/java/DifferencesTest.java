/**
 * Promises 10 and 11, differences: a test for each sentence, named after its promise.
 */
public final class DifferencesTest extends Checks {
    public static void main(String[] args) {
        runAll(DifferencesTest.class, 10, 11);
    }

    private static void differs(String what, int[] x, int[] y, int... want) {
        KeptVersions k = withVersions(x, y);
        int[] got = new int[5];
        for (int i = 0; i < 5; i++) {
            got[i] = k.differ(0, 1, i);
        }
        dueRow(what, got, want);
    }

    private static void keeps(String what, int[] x, int[] y, int... want) {
        KeptVersions k = withVersions(x, y);
        int[] got = new int[x.length];
        for (int i = 0; i < x.length; i++) {
            got[i] = k.kept(0, 1, i);
        }
        dueRow(what, got, want);
    }

    // ---- 10: "what = 0 LINES kept, 1 HUNKS, 2 LINES that go, 3 that come, 4 ROOM. UNKNOWN; OUTSIDE."
    // "ROOM of a PATCH: 2 for each HUNK, and 1 for each LINE that comes, and 1."

    static void promise10OfOrdinaryRows() {
        // 9 comes, 1 is kept, 2 goes, 3 is kept, 4 goes and 8 7 come.
        differs("there", row(1, 2, 3, 4), row(9, 1, 3, 8, 7), 2, 3, 2, 3, 10);
        differs("back", row(9, 1, 3, 8, 7), row(1, 2, 3, 4), 2, 3, 3, 2, 9);
    }

    static void promise10OfTwoEmptyRows() {
        differs("both empty", row(), row(), 0, 0, 0, 0, 1);
    }

    static void promise10FromAnEmptyRow() {
        differs("one comes", row(), row(5), 0, 1, 0, 1, 4);
        differs("fourteen come", row(), rising(14, 1), 0, 1, 0, 14, 17);
    }

    static void promise10ToAnEmptyRow() {
        differs("one goes", row(5), row(), 0, 1, 1, 0, 3);
        differs("fourteen go", rising(14, 1), row(), 0, 1, 14, 0, 3);
    }

    static void promise10OfFullRows() {
        differs("all like", rising(14, 1), rising(14, 1), 14, 0, 0, 0, 1);
        differs("none like", rising(14, 1), rising(14, 51), 0, 1, 14, 14, 17);
        differs("all but the last", rising(14, 1), rising(14, 2), 13, 2, 1, 1, 6);
    }

    static void promise10TenHunksAreTheMost() {
        differs("ten hunks", row(50, 1, 2, 3, 4, 51, 5, 52, 6, 53, 7, 54, 8, 9), row(1, 60, 2, 61, 3, 62, 4, 5, 6, 7, 8, 63, 9, 64),
            9, 10, 5, 5, 26);
    }

    static void promise10OfLikeVersionsAndOfOneToItself() {
        KeptVersions k = withVersions(row(1, 2), row(1, 2));
        due("like ones, room", k.differ(0, 1, 4), 1);
        due("itself, kept", k.differ(1, 1, 0), 2);
        due("itself, hunks", k.differ(1, 1, 1), 0);
    }

    static void promise10UnknownVersions() {
        KeptVersions k = withVersions(row(1), row(2));
        refused(k, UNKNOWN, () -> k.differ(2, 0, 0), () -> k.differ(NONE, 0, 0), () -> k.differ(LOW, 0, 0), () -> k.differ(HIGH, 0, 0));
        refused(k, UNKNOWN, () -> k.differ(0, 2, 0), () -> k.differ(0, NONE, 0), () -> k.differ(0, LOW, 0), () -> k.differ(0, HIGH, 0));
    }

    static void promise10WhatOutside() {
        KeptVersions k = withVersions(row(1), row(2));
        refused(k, OUTSIDE, () -> k.differ(0, 1, -1), () -> k.differ(0, 1, 5), () -> k.differ(0, 1, LOW), () -> k.differ(0, 1, HIGH));
    }

    static void promise10UnknownAheadOfOutside() {
        KeptVersions k = withVersions(row(1), row(2));
        refused(k, UNKNOWN, () -> k.differ(2, 0, 5), () -> k.differ(0, 2, -1));
    }

    // ---- 11: "To which LINE of v LINE i of u is kept; NONE: it goes. UNKNOWN: u, v, i."

    static void promise11LikeNextLinesAreKept() {
        keeps("the first of two like ones", row(1, 2, 1), row(1), 0, NONE, NONE);
        keeps("as the first of two like ones", row(1), row(1, 1), 0);
    }

    static void promise11ElseTheLineOfXIsDropped() {
        keeps("either may be kept", row(1, 2), row(2, 1), NONE, 0);
        keeps("two ways to keep two", row(5, 5, 6, 5), row(6, 5, 5), NONE, NONE, 0, 1);
        keeps("two ways to keep two, back", row(6, 5, 5), row(5, 5, 6, 5), NONE, 0, 1);
    }

    static void promise11ElseTheLineOfYComes() {
        keeps("to drop 1 would keep less", row(1, 2), row(3, 1, 2), 1, 2);
        keeps("one comes within", row(1, 2), row(1, 3, 2), 0, 2);
    }

    static void promise11AsManyAsMayBe() {
        keeps("three, not the one at the front", row(1, 2, 3, 4), row(4, 1, 2, 3), 1, 2, 3, NONE);
        keeps("three, not the one at the end", row(4, 1, 2, 3), row(1, 2, 3, 4), NONE, 0, 1, 2);
    }

    static void promise11EachLineIsKeptOnce() {
        keeps("three 5 of y are no more than one of x", row(1, 5), row(5, 5, 1, 5), 2, 3);
        keeps("three 5 of x are no more than one of y", row(5, 5, 1, 5), row(1, 5), NONE, NONE, 0, 1);
    }

    static void promise11ToAnEmptyRowAllGo() {
        keeps("all go", row(1, 2), row(), NONE, NONE);
    }

    static void promise11WhatIsLeftOfXGoes() {
        keeps("behind the end of y", row(1, 2, 3), row(1), 0, NONE, NONE);
    }

    static void promise11OfFullRows() {
        keeps("all like", rising(14, 1), rising(14, 1), rising(14, 0));
        keeps("none like", rising(14, 1), rising(14, 51), repeated(14, NONE));
        keeps("all of one line", repeated(14, 7), repeated(14, 7), rising(14, 0));
    }

    static void promise11UnknownVersions() {
        KeptVersions k = withVersions(row(1), row(1));
        refused(k, UNKNOWN, () -> k.kept(2, 0, 0), () -> k.kept(NONE, 0, 0), () -> k.kept(LOW, 0, 0), () -> k.kept(HIGH, 0, 0));
        refused(k, UNKNOWN, () -> k.kept(0, 2, 0), () -> k.kept(0, NONE, 0), () -> k.kept(0, LOW, 0), () -> k.kept(0, HIGH, 0));
    }

    static void promise11UnknownLine() {
        KeptVersions k = withVersions(row(1, 2), row(1, 2, 3), row());
        refused(k, UNKNOWN, () -> k.kept(0, 1, 2), () -> k.kept(0, 1, -1), () -> k.kept(0, 1, LOW), () -> k.kept(0, 1, HIGH));
        refused(k, UNKNOWN, () -> k.kept(2, 0, 0));
    }
}
