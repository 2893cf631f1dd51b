/**
 * Promises 17 to 19, patches on the desk: a test for each sentence, named after its promise.
 */
public final class LayingTest extends Checks {
    public static void main(String[] args) {
        runAll(LayingTest.class, 17, 19);
    }

    private static void fitsIs(String what, int want, int[][] hunks, int... desk) {
        KeptVersions k = withPatches(hunks);
        setDesk(k, desk);
        long before = k.digest();
        due(what, k.fits(0), want);
        due(what + ", whether something changes", k.digest() == before ? 0 : 1, 0);
    }

    private static void looseIs(String what, int moved, int[][] hunks, int[] desk, int... want) {
        KeptVersions k = withPatches(hunks);
        setDesk(k, desk);
        due(what, k.loose(0), moved);
        dueRow(what, deskOf(k), want);
    }

    private static void looseIsRefused(int why, int[][] hunks, int... desk) {
        KeptVersions k = withPatches(hunks);
        setDesk(k, desk);
        refused(k, why, () -> k.loose(0));
    }

    // ---- 17: "Whether a PATCH FITS THE DESK: 1, 0. UNKNOWN."
    // "of each HUNK the LINES that go stand there where it begins (one that has none: it begins not behind the row's end)"

    static void promise17OneWithoutHunksFitsAnyDesk() {
        fitsIs("an empty one", 1, hunks());
        fitsIs("a full one", 1, hunks(), repeated(14, 3));
    }

    static void promise17LinesThatGoStandThere() {
        fitsIs("it does", 1, hunks(h(1, 5, 6)), 4, 5, 4);
        fitsIs("another line does", 0, hunks(h(1, 5, 6)), 5, 4, 5);
    }

    static void promise17AtTheFirstAndTheLastPlace() {
        fitsIs("first", 1, hunks(h(0, 5, 6)), 5);
        fitsIs("last of fourteen", 1, hunks(h(13, 3, NONE)), repeated(14, 3));
        fitsIs("behind fourteen", 0, hunks(h(14, 3, NONE)), repeated(14, 3));
    }

    static void promise17BehindTheEndNoLineStands() {
        fitsIs("just behind", 0, hunks(h(1, 5, 6)), 5);
        fitsIs("on an empty desk", 0, hunks(h(0, 5, 6)));
    }

    static void promise17AllLinesOfAHunkStandThere() {
        KeptVersions k = withVersions(row(1, 2, 3), row());
        k.patch(0, 1);
        setDesk(k, 1, 2, 3, 4);
        due("all", k.fits(0), 1);
        setDesk(k, 1, 2, 4);
        due("not the last", k.fits(0), 0);
        setDesk(k, 1, 2);
        due("the last would be behind the end", k.fits(0), 0);
    }

    static void promise17OneThatHasNoneBeginsNotBehindTheEnd() {
        fitsIs("at the end", 1, hunks(h(2, NONE, 6)), 4, 5);
        fitsIs("behind it", 0, hunks(h(3, NONE, 6)), 4, 5);
        fitsIs("at the end of an empty desk", 1, hunks(h(0, NONE, 6)));
        fitsIs("behind an empty desk", 0, hunks(h(1, NONE, 6)));
        fitsIs("at the end of a full one", 1, hunks(h(14, NONE, 6)), repeated(14, 3));
    }

    static void promise17EachHunkMustFit() {
        fitsIs("all", 1, hunks(h(0, 1, NONE), h(2, 3, NONE)), 1, 2, 3);
        fitsIs("the first does not", 0, hunks(h(0, 1, NONE), h(2, 3, NONE)), 2, 2, 3);
        fitsIs("the last does not", 0, hunks(h(0, 1, NONE), h(2, 3, NONE)), 1, 2, 2);
    }

    static void promise17PlacesAreThoseAheadOfAllHunks() {
        fitsIs("as they are", 1, hunks(h(0, NONE, 6), h(2, 5, NONE)), 1, 2, 5);
        fitsIs("moved by what comes", 0, hunks(h(0, NONE, 6), h(2, 5, NONE)), 1, 2, 3, 5);
    }

    static void promise17UnknownPatch() {
        KeptVersions k = withPatches(hunks());
        refused(k, UNKNOWN, () -> k.fits(1), () -> k.fits(NONE), () -> k.fits(LOW), () -> k.fits(HIGH));
    }

    // ---- 18: "A PATCH is laid on THE DESK: LINES then. UNKNOWN; STATE: it does not fit; FULL: more than 14 LINES."

    static void promise18LinesGoAndComeAtOnce() {
        KeptVersions k = withPatches(hunks(h(0, NONE, 6), h(2, 5, NONE), h(4, 8, 9)));
        setDesk(k, 1, 2, 5, 7, 8, 3);
        due("lines", k.lay(0), 6);
        dueRow("desk", deskOf(k), 6, 1, 2, 7, 9, 3);
    }

    static void promise18OneWithoutHunksChangesNothing() {
        KeptVersions k = withPatches(hunks());
        due("on an empty desk", k.lay(0), 0);
        setDesk(k, 4, 5);
        due("on two lines", k.lay(0), 2);
        dueRow("desk", deskOf(k), 4, 5);
    }

    static void promise18ToAnEmptyDeskAndFromIt() {
        KeptVersions k = withVersions(rising(14, 1), row());
        int gone = k.patch(0, 1);
        int back = k.patch(1, 0);
        k.take(0);
        due("all go", k.lay(gone), 0);
        due("all come", k.lay(back), 14);
        dueRow("desk", deskOf(k), rising(14, 1));
    }

    static void promise18StateWhereItDoesNotFit() {
        KeptVersions k = withPatches(hunks(h(0, 1, NONE), h(2, 5, NONE)));
        setDesk(k, 1, 2, 3);
        refused(k, STATE, () -> k.lay(0));
        setDesk(k);
        refused(k, STATE, () -> k.lay(0));
    }

    static void promise18FourteenLinesAreFine() {
        KeptVersions k = withPatches(hunks(h(13, NONE, 6)));
        setDesk(k, repeated(13, 2));
        due("lines", k.lay(0), 14);
        due("the last", k.desk(13), 6);
    }

    static void promise18FullWithMoreThanFourteen() {
        KeptVersions k = withPatches(hunks(h(14, NONE, 6)), hunks(h(0, NONE, 6)));
        setDesk(k, repeated(14, 2));
        refused(k, FULL, () -> k.lay(0), () -> k.lay(1));
    }

    static void promise18FullFarBeyondFourteen() {
        KeptVersions k = withVersions(row(), rising(14, 1));
        int twice = k.together(k.patch(0, 1), k.patch(0, 1));
        setDesk(k, repeated(14, 2));
        refused(k, FULL, () -> k.lay(twice));
    }

    static void promise18OnlyTheRowInTheEndIsCounted() {
        KeptVersions k = withPatches(hunks(h(0, NONE, 6), h(13, 2, NONE)));
        setDesk(k, repeated(14, 2));
        due("one comes ahead of one that goes", k.lay(0), 14);
        dueRow("its ends", row(k.desk(0), k.desk(1), k.desk(13)), 6, 2, 2);
    }

    static void promise18StateAheadOfFull() {
        KeptVersions k = withPatches(hunks(h(0, NONE, 6), h(14, 3, NONE)));
        setDesk(k, repeated(14, 2));
        refused(k, STATE, () -> k.lay(0));
    }

    static void promise18UnknownPatch() {
        KeptVersions k = withPatches(hunks());
        refused(k, UNKNOWN, () -> k.lay(1), () -> k.lay(NONE), () -> k.lay(LOW), () -> k.lay(HIGH));
    }

    // ---- 19: "A PATCH is LOOSELY laid on THE DESK: the sum of sizes of all d."
    // "UNKNOWN; STATE: it does not go; FULL: more than 14 LINES come of it."

    static void promise19WithoutHunks() {
        looseIs("an empty desk", 0, hunks(), row());
        looseIs("two lines", 0, hunks(), row(4, 5), 4, 5);
    }

    static void promise19WhereItFitsItIsNotMoved() {
        looseIs("though there is another one ahead", 0, hunks(h(2, 5, 6)), row(5, 5, 5, 5), 5, 5, 6, 5);
    }

    static void promise19LeastSizeOfAll() {
        looseIs("below", 1, hunks(h(3, 5, 6)), row(1, 1, 5, 1, 1, 5), 1, 1, 6, 1, 1, 5);
        looseIs("above", 1, hunks(h(3, 5, 6)), row(5, 1, 1, 1, 5), 5, 1, 1, 1, 6);
    }

    static void promise19OfLikeSizesTheOneBelow0() {
        looseIs("2 either way", 2, hunks(h(3, 5, 6)), row(1, 5, 1, 1, 1, 5), 1, 6, 1, 1, 1, 5);
        looseIs("1 either way", 1, hunks(h(1, 5, NONE)), row(5, 1, 5), 1, 5);
    }

    static void promise19TheFirstFrom0On() {
        looseIs("at 0", 14, hunks(h(14, 5, 6)), row(5, 1), 6, 1);
        looseIs("at 0 of fourteen", 13, hunks(h(13, 5, NONE)), row(5, 1, 1, 1, 1, 1, 1, 1, 1, 1, 1, 1, 1, 1), repeated(13, 1));
    }

    static void promise19UpToTheLastPlace() {
        looseIs("the last of fourteen", 13, hunks(h(0, 5, NONE)), row(1, 1, 1, 1, 1, 1, 1, 1, 1, 1, 1, 1, 1, 5), repeated(13, 1));
    }

    static void promise19OneThatTakesNoneNotBehindTheEnd() {
        looseIs("at the end", 7, hunks(h(9, NONE, 5)), row(1, 2), 1, 2, 5);
        looseIs("just at the end", 0, hunks(h(2, NONE, 5)), row(1, 2), 1, 2, 5);
        looseIs("of an empty desk", 14, hunks(h(14, NONE, 5)), row(), 5);
    }

    static void promise19AllLinesOfAHunkStandThere() {
        KeptVersions k = withVersions(row(1, 2, 3, 4, 5), row(1, 7, 8, 9, 4));
        int p = k.patch(0, 1);
        // 2 3 to 7 8 9 is laid two further; then 5 is looked for at 4 + 2 + 1, and stands there.
        setDesk(k, 2, 0, 0, 2, 3, 0, 5);
        due("moved", k.loose(p), 2);
        dueRow("desk", deskOf(k), 2, 0, 0, 7, 8, 9, 0);
        setDesk(k, 0, 0, 5, 0, 2);
        refused(k, STATE, () -> k.loose(p));
    }

    static void promise19WhatDWasStaysInTheShift() {
        // The first is laid at 2: then the second is looked for at 2 + 2 - 1.
        looseIs("moved on", 2, hunks(h(0, 1, NONE), h(2, 2, 3)), row(9, 9, 1, 9, 2), 9, 9, 9, 3);
        // Both at one less: with the shift the second is not moved again.
        looseIs("moved back", 1, hunks(h(1, 1, 4), h(4, 2, 3)), row(1, 9, 9, 2, 9, 2), 4, 9, 9, 3, 9, 2);
    }

    static void promise19WhatComesAndGoesStaysInTheShift() {
        // One comes: the second is looked for at 2 + 1, not at 2; 5 stands at 2 and at 4, ahead of it is chosen.
        looseIs("one more comes", 1, hunks(h(0, NONE, 8), h(2, 5, 6)), row(9, 5, 9, 5), 8, 9, 6, 9, 5);
        // One goes: it is looked for at 3 - 1.
        looseIs("one more goes", 0, hunks(h(0, 8, NONE), h(3, 5, 6)), row(8, 9, 5, 5, 5), 9, 5, 6, 5);
    }

    static void promise19SizesAreSummed() {
        // d -1, then looked for at 4 - 1 - 1, and found at 3: d 1.
        looseIs("-1 and 1", 2, hunks(h(1, 5, NONE), h(4, 6, NONE)), row(5, 1, 1, 1, 6), 1, 1, 1);
    }

    static void promise19ALineAtLeastBehindWhatTheHunkAheadHasLaid() {
        looseIs("what goes follows at once", 1, hunks(h(0, 1, NONE), h(2, 2, 3)), row(1, 2, 9, 2), 2, 9, 3);
        looseIs("what comes follows a line later", 1, hunks(h(0, NONE, 5), h(1, NONE, 6), h(2, 7, NONE)), row(3, 4, 4, 7), 5, 3, 6, 4, 4);
        looseIsRefused(STATE, hunks(h(0, NONE, 5), h(1, NONE, 6)));
        looseIs("one line between", 0, hunks(h(0, NONE, 5), h(1, NONE, 6)), row(3), 5, 3, 6);
    }

    static void promise19NotAheadOfTheHunkAhead() {
        looseIsRefused(STATE, hunks(h(0, 1, NONE), h(2, 2, 3)), 2, 9, 1, 9);
    }

    static void promise19NotWithinWhatTheHunkAheadBrought() {
        looseIsRefused(STATE, hunks(h(0, 1, 2), h(2, 2, 4)), 1, 9);
    }

    static void promise19StateWhereALineStandsNowhere() {
        looseIsRefused(STATE, hunks(h(3, 5, 6)), 1, 2, 3, 4);
        looseIsRefused(STATE, hunks(h(0, 5, 6)));
    }

    static void promise19StateOfALaterHunkLeavesTheDesk() {
        looseIsRefused(STATE, hunks(h(0, 1, 7), h(2, 5, 6)), 1, 2, 3, 4);
    }

    static void promise19FourteenLinesAreFine() {
        looseIs("thirteen and one", 1, hunks(h(14, NONE, 6)), repeated(13, 2), 2, 2, 2, 2, 2, 2, 2, 2, 2, 2, 2, 2, 2, 6);
    }

    static void promise19FullWithMoreThanFourteen() {
        looseIsRefused(FULL, hunks(h(0, NONE, 6)), repeated(14, 2));
        looseIsRefused(FULL, hunks(h(0, NONE, 6), h(2, NONE, 6)), repeated(13, 2));
    }

    static void promise19FullFarBeyondFourteen() {
        KeptVersions k = withVersions(row(), rising(14, 1));
        int twice = k.together(k.patch(0, 1), k.patch(0, 1));
        setDesk(k, repeated(14, 2));
        refused(k, FULL, () -> k.loose(twice));
    }

    static void promise19OnlyTheRowInTheEndIsCounted() {
        looseIs("one comes ahead of one that goes", 0, hunks(h(0, NONE, 6), h(12, 2, NONE)), repeated(14, 2),
            6, 2, 2, 2, 2, 2, 2, 2, 2, 2, 2, 2, 2, 2);
    }

    static void promise19StateAheadOfFull() {
        looseIsRefused(STATE, hunks(h(0, NONE, 6), h(2, 7, NONE)), repeated(14, 2));
    }

    static void promise19UnknownPatch() {
        KeptVersions k = withPatches(hunks());
        refused(k, UNKNOWN, () -> k.loose(1), () -> k.loose(NONE), () -> k.loose(LOW), () -> k.loose(HIGH));
    }
}
