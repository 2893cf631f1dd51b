/**
 * Promises 23 to 26, joining and leading back: a test for each sentence, named after its promise.
 */
public final class JoiningTest extends Checks {
    public static void main(String[] args) {
        runAll(JoiningTest.class, 23, 26);
    }

    private static void clashes(String what, int want, int[] b, int[] x, int[] y) {
        KeptVersions k = withVersions(b, x, y);
        long before = k.digest();
        due(what, k.clash(0, 1, 2), want);
        due(what + ", whether something changes", k.digest() == before ? 0 : 1, 0);
    }

    private static void joins(String what, int[] b, int[] x, int[] y, int... want) {
        KeptVersions k = withVersions(b, x, y);
        setDesk(k, 77);
        due(what, k.join(0, 1, 2), want.length);
        dueRow(what, deskOf(k), want);
        due(what + ", the other way round", k.join(0, 2, 1), want.length);
        dueRow(what + ", the other way round", deskOf(k), want);
        due(what + ", versions", k.count(0), 3);
    }

    private static void joinIsRefused(int why, int[] b, int[] x, int[] y) {
        KeptVersions k = withVersions(b, x, y);
        refused(k, why, () -> k.join(0, 1, 2), () -> k.join(0, 2, 1));
    }

    // ---- 23: "HUNKS of x that clash. UNKNOWN."
    // "two touch, if in b the LINES that go by them overlap, or one begins where the other ends"

    static void promise23OverlapClashes() {
        clashes("the same line", 1, row(1, 2, 3), row(1, 8, 3), row(1, 9, 3));
        clashes("one of two", 1, row(1, 2, 3, 4), row(1, 8, 9, 4), row(1, 2, 7, 4));
        clashes("comes within what goes", 1, row(1, 2, 3, 4), row(1, 2, 9, 3, 4), row(1, 4));
        clashes("goes around where one comes", 1, row(1, 2, 3, 4), row(1, 4), row(1, 2, 9, 3, 4));
    }

    static void promise23OneBeginsWhereTheOtherEndsClashes() {
        clashes("x behind y", 1, row(1, 2, 3), row(1, 9, 3), row(8, 2, 3));
        clashes("x ahead of y", 1, row(1, 2, 3), row(8, 2, 3), row(1, 9, 3));
        clashes("comes where the other's went", 1, row(1, 2, 3), row(1, 9, 2, 3), row(8, 2, 3));
        clashes("comes ahead of what goes", 1, row(1, 2, 3), row(1, 9, 2, 3), row(1, 8, 3));
        clashes("both come at one place", 1, row(1, 2), row(1, 8, 2), row(1, 9, 2));
    }

    static void promise23ALineBetweenIsNoTouch() {
        clashes("x behind y", 0, row(1, 2, 3), row(1, 2, 9), row(8, 2, 3));
        clashes("x ahead of y", 0, row(1, 2, 3), row(8, 2, 3), row(1, 2, 9));
        clashes("what comes, a line further", 0, row(1, 2), row(1, 9, 2), row(8, 1, 2));
    }

    static void promise23JustAlikeDoesNotClash() {
        clashes("changed", 0, row(1, 2, 3), row(1, 9, 3), row(1, 9, 3));
        clashes("comes", 0, row(1, 2), row(1, 9, 2), row(1, 9, 2));
        clashes("goes", 0, row(1, 2, 3), row(1, 3), row(1, 3));
    }

    static void promise23AlikeInPartClashes() {
        clashes("one comes, or two that begin with it", 1, row(1, 2), row(1, 7, 2), row(1, 7, 8, 2));
        clashes("one comes, or two that end with it", 1, row(1, 2), row(1, 8, 2), row(1, 7, 8, 2));
        clashes("one goes, or two that begin with it", 1, row(1, 2, 3, 4), row(1, 8, 3, 4), row(1, 8, 4));
        clashes("two come, or one that they begin with", 1, row(1, 2), row(1, 7, 8, 2), row(1, 7, 2));
        clashes("two go, or one that they begin with", 1, row(1, 2, 3, 4), row(1, 8, 4), row(1, 8, 3, 4));
        clashes("another one comes", 1, row(1, 2, 3), row(1, 8, 3), row(1, 9, 3));
    }

    static void promise23HunksOfXAreCounted() {
        clashes("two of x with one of y", 2, row(1, 2, 3, 4, 5, 6), row(9, 2, 3, 4, 5, 8), row(60, 61, 62, 63, 64, 65));
        clashes("one of x with two of y", 1, row(1, 2, 3, 4, 5, 6), row(60, 61, 62, 63, 64, 65), row(9, 2, 3, 4, 5, 8));
        clashes("one alike, one clashes", 1, row(1, 2, 3, 4, 5, 6), row(9, 2, 3, 4, 5, 8), row(9, 2, 3, 4, 5, 7));
    }

    static void promise23TenHunksOfX() {
        int[] base = row(50, 1, 2, 3, 4, 51, 5, 52, 6, 53, 7, 54, 8, 9);
        int[] ten = row(1, 60, 2, 61, 3, 62, 4, 5, 6, 7, 8, 63, 9, 64);
        clashes("with all gone", 10, base, ten, row());
        clashes("with like ones", 0, base, ten, ten);
    }

    static void promise23OfEmptyRows() {
        clashes("all empty", 0, row(), row(), row());
        clashes("both come", 1, row(), row(1), row(2));
        clashes("like ones come", 0, row(), row(1), row(1));
        clashes("one comes", 0, row(), row(1), row());
        clashes("both go", 0, row(1, 2), row(), row());
    }

    static void promise23WithTheBaseItself() {
        KeptVersions k = withVersions(row(1, 2), row(3));
        dueRow("clash", row(k.clash(0, 0, 1), k.clash(0, 1, 0), k.clash(0, 0, 0), k.clash(0, 1, 1)), 0, 0, 0, 0);
    }

    static void promise23UnknownVersions() {
        KeptVersions k = withVersions(row(1), row(2), row(3));
        refused(k, UNKNOWN, () -> k.clash(3, 1, 2), () -> k.clash(NONE, 1, 2), () -> k.clash(LOW, 1, 2), () -> k.clash(HIGH, 1, 2));
        refused(k, UNKNOWN, () -> k.clash(0, 3, 2), () -> k.clash(0, NONE, 2), () -> k.clash(0, LOW, 2), () -> k.clash(0, HIGH, 2));
        refused(k, UNKNOWN, () -> k.clash(0, 1, 3), () -> k.clash(0, 1, NONE), () -> k.clash(0, 1, LOW), () -> k.clash(0, 1, HIGH));
    }

    // ---- 24: "THE DESK becomes the row that is JOINED: LINES. UNKNOWN; STATE: some clash; FULL: more than 14."

    static void promise24AllHunksAreLaid() {
        joins("far from each other", row(1, 2, 3, 4, 5), row(9, 2, 3, 4, 5), row(1, 2, 3, 8, 7), 9, 2, 3, 8, 7);
        joins("by turns", row(1, 2, 3, 4, 5, 6, 7), row(9, 2, 3, 4, 8, 6, 7), row(1, 2, 4, 5, 6, 7, 30), 9, 2, 4, 8, 6, 7, 30);
        joins("a line between", row(1, 2, 3), row(8, 2, 3), row(1, 2, 9), 8, 2, 9);
    }

    static void promise24JustAlikeOnesAreLaidOnce() {
        joins("changed", row(1, 2, 3, 4, 5, 6), row(9, 2, 3, 4, 5, 6, 8), row(9, 2, 4, 5, 6), 9, 2, 4, 5, 6, 8);
        joins("comes", row(1, 2), row(1, 9, 2), row(1, 9, 2), 1, 9, 2);
        joins("goes", row(1, 2, 3), row(1, 3), row(1, 3), 1, 3);
    }

    static void promise24TenHunksInAll() {
        joins("all that rows of 14 lines have room for", rising(14, 1), row(20, 1, 2, 21, 3, 4, 5, 6, 7, 9, 10, 11, 13, 14),
            row(1, 30, 2, 3, 31, 4, 32, 5, 7, 8, 9, 11, 12, 13), 20, 1, 30, 2, 21, 3, 31, 4, 32, 5, 7, 9, 11, 13);
    }

    static void promise24OfEmptyRows() {
        joins("all empty", row(), row(), row());
        joins("all go", row(1, 2), row(), row());
        joins("one comes", row(), row(1), row(), 1);
    }

    static void promise24WithTheBaseItself() {
        KeptVersions k = withVersions(row(1, 2), row(3));
        due("x is the base", k.join(0, 0, 1), 1);
        dueRow("desk", deskOf(k), 3);
        due("all are the base", k.join(0, 0, 0), 2);
        dueRow("desk", deskOf(k), 1, 2);
    }

    static void promise24StateWhereSomeClash() {
        joinIsRefused(STATE, row(1, 2, 3), row(1, 8, 3), row(1, 9, 3));
        joinIsRefused(STATE, row(1, 2, 3, 4, 5), row(9, 2, 3, 4, 8), row(1, 2, 3, 4, 7));
        joinIsRefused(STATE, row(), row(1), row(2));
    }

    static void promise24FourteenLinesAreFine() {
        joins("fourteen", row(1, 2, 3, 4, 5, 6), row(1, 10, 11, 12, 13, 14, 2, 3, 4, 5, 6), row(1, 2, 3, 20, 21, 22, 4, 5, 6),
            1, 10, 11, 12, 13, 14, 2, 3, 20, 21, 22, 4, 5, 6);
    }

    static void promise24FullWithMoreThanFourteen() {
        joinIsRefused(FULL, row(1, 2, 3, 4, 5, 6), row(1, 10, 11, 12, 13, 14, 2, 3, 4, 5, 6), row(1, 2, 3, 20, 21, 22, 23, 4, 5, 6));
    }

    static void promise24FullFarBeyondFourteen() {
        joinIsRefused(FULL, row(5), row(10, 11, 12, 13, 14, 15, 16, 17, 18, 19, 20, 21, 22, 5),
            row(5, 30, 31, 32, 33, 34, 35, 36, 37, 38, 39, 40, 41, 42));
    }

    static void promise24StateAheadOfFull() {
        joinIsRefused(STATE, row(5), row(5, 10, 11, 12, 13, 14, 15, 16, 17, 18, 19, 20, 21, 22),
            row(5, 30, 31, 32, 33, 34, 35, 36, 37, 38, 39, 40, 41, 42));
    }

    static void promise24UnknownVersions() {
        KeptVersions k = withVersions(row(1), row(2), row(1));
        refused(k, UNKNOWN, () -> k.join(3, 1, 2), () -> k.join(NONE, 1, 2), () -> k.join(LOW, 1, 2), () -> k.join(HIGH, 1, 2));
        refused(k, UNKNOWN, () -> k.join(0, 3, 2), () -> k.join(0, NONE, 2), () -> k.join(0, LOW, 2), () -> k.join(0, HIGH, 2));
        refused(k, UNKNOWN, () -> k.join(0, 1, 3), () -> k.join(0, 1, NONE), () -> k.join(0, 1, LOW), () -> k.join(0, 1, HIGH));
    }

    // ---- 25: "Which VERSION brought LINE i of a VERSION. UNKNOWN: version, i."
    // "if a PARENT's DIFFERENCE to it keeps that LINE (the first PARENT ahead of the second), ... else that VERSION brought it"

    private static int[] broughtOf(KeptVersions k, int version) {
        int[] brought = new int[k.about(version, 0)];
        for (int i = 0; i < brought.length; i++) {
            brought[i] = k.brought(version, i);
        }
        return brought;
    }

    static void promise25WithoutParents() {
        KeptVersions k = withVersions(row(1, 2), row(1, 2));
        dueRow("0", broughtOf(k, 0), 0, 0);
        dueRow("1", broughtOf(k, 1), 1, 1);
    }

    static void promise25ByAParent() {
        KeptVersions k = withVersions(row(6, 6), row(1, 2, 3));
        child(k, 1, NONE, 1, 9, 3);
        dueRow("2", broughtOf(k, 2), 1, 2, 1);
    }

    static void promise25TheFirstParentAheadOfTheSecond() {
        KeptVersions k = withVersions(row(1, 2, 3), row(3, 4, 5));
        child(k, 0, 1, 1, 3, 4, 6);
        child(k, 1, 0, 1, 3, 4, 6);
        dueRow("first 0", broughtOf(k, 2), 0, 0, 1, 2);
        dueRow("first 1", broughtOf(k, 3), 0, 1, 1, 3);
    }

    static void promise25LedBackFurther() {
        KeptVersions k = withVersions(row(1));
        for (int n = 1; n < 10; n++) {
            k.line(n, 10 + n);
            k.keep(n - 1, NONE);
        }
        dueRow("9", broughtOf(k, 9), rising(10, 0));
    }

    static void promise25OnlyWhatTheDifferenceKeeps() {
        KeptVersions k = withVersions(row(1, 2));
        child(k, 0, NONE, 2, 1);
        dueRow("1 is there, but not kept", broughtOf(k, 1), 0, 1);
    }

    static void promise25BroughtAgainWhereItWasGone() {
        KeptVersions k = withVersions(row(1, 2));
        child(k, 0, NONE, 1);
        child(k, 1, NONE, 1, 2);
        dueRow("2", broughtOf(k, 2), 0, 2);
    }

    static void promise25OfAnEmptyParentAndAFullVersion() {
        KeptVersions k = withVersions(row());
        child(k, 0, NONE, rising(14, 1));
        child(k, 1, 0, rising(14, 1));
        dueRow("1", broughtOf(k, 1), repeated(14, 1));
        dueRow("2", broughtOf(k, 2), repeated(14, 1));
    }

    static void promise25UnknownVersion() {
        KeptVersions k = withVersions(row(1), row(2));
        refused(k, UNKNOWN, () -> k.brought(2, 0), () -> k.brought(NONE, 0), () -> k.brought(LOW, 0), () -> k.brought(HIGH, 0));
    }

    static void promise25UnknownLine() {
        KeptVersions k = withVersions(row(1, 2), row(), rising(14, 1));
        refused(k, UNKNOWN, () -> k.brought(0, 2), () -> k.brought(0, -1), () -> k.brought(0, LOW), () -> k.brought(0, HIGH));
        refused(k, UNKNOWN, () -> k.brought(1, 0), () -> k.brought(2, 14));
        due("the last of fourteen", k.brought(2, 13), 2);
    }

    // ---- 26: "How many LINES of a VERSION another one brought. UNKNOWN."

    static void promise26LinesThatAnotherOneBrought() {
        KeptVersions k = withVersions(row(1, 2, 3), row(3, 4, 5));
        child(k, 0, 1, 1, 3, 4, 6);
        dueRow("of 2", row(k.share(2, 0), k.share(2, 1), k.share(2, 2)), 2, 1, 1);
    }

    static void promise26OfAForebearFurtherBack() {
        KeptVersions k = withVersions(row(1, 2, 3));
        child(k, 0, NONE, 1, 2, 3, 4);
        child(k, 1, NONE, 2, 3, 4, 5);
        dueRow("of 2", row(k.share(2, 0), k.share(2, 1), k.share(2, 2)), 2, 1, 1);
    }

    static void promise26NoneAndAll() {
        KeptVersions k = withVersions(row(), rising(14, 1));
        child(k, 1, NONE, rising(14, 1));
        dueRow("shares", row(k.share(2, 1), k.share(2, 2), k.share(2, 0), k.share(1, 1), k.share(1, 2), k.share(0, 0)), 14, 0, 0, 14, 0, 0);
    }

    static void promise26UnknownVersions() {
        KeptVersions k = withVersions(row(1), row(2));
        refused(k, UNKNOWN, () -> k.share(2, 0), () -> k.share(NONE, 0), () -> k.share(LOW, 0), () -> k.share(HIGH, 0));
        refused(k, UNKNOWN, () -> k.share(0, 2), () -> k.share(0, NONE), () -> k.share(0, LOW), () -> k.share(0, HIGH));
    }
}
