/**
 * Promises 20 to 22, patches turned, put together and swapped: a test for each sentence, named after its promise.
 */
public final class ComposedPatchesTest extends Checks {
    public static void main(String[] args) {
        runAll(ComposedPatchesTest.class, 20, 22);
    }

    private static void turnedIs(String what, int[][] hunks, int... want) {
        KeptVersions k = withPatches(hunks);
        due(what, k.turn(0), 1);
        dueRow(what, told(k, 1), want);
        int again = k.turn(1);
        dueRow(what + ", turned twice", told(k, again), told(k, 0));
    }

    private static void togetherIs(String what, int[][] p, int[][] q, int... want) {
        KeptVersions k = withPatches(p, q);
        due(what, k.together(0, 1), 2);
        dueRow(what, told(k, 2), want);
        due(what + ", the first stays", k.of(0, 0), p.length);
        due(what + ", the second stays", k.of(1, 0), q.length);
    }

    private static void togetherIsRefused(int why, int[][] p, int[][] q) {
        KeptVersions k = withPatches(p, q);
        refused(k, why, () -> k.together(0, 1));
    }

    private static void swappedIs(String what, int[][] p, int[][] q, int[] second, int[] first) {
        KeptVersions k = withPatches(p, q);
        due(what, k.swap(0, 1), 2);
        due(what + ", patches", k.count(2), 4);
        dueRow(what + ", the second one", told(k, 2), second);
        dueRow(what + ", the first one", told(k, 3), first);
    }

    private static void swapIsRefused(int[][] p, int[][] q) {
        KeptVersions k = withPatches(p, q);
        refused(k, STATE, () -> k.swap(0, 1));
    }

    /** Patch 0 takes 14 lines at 0, patch 1 brings them, patch 2 takes 28, patch 3 brings them. */
    private static KeptVersions longPatches() {
        KeptVersions k = withVersions(repeated(14, 5), row());
        k.patch(0, 1);
        k.patch(1, 0);
        k.together(0, 0);
        k.together(1, 1);
        return k;
    }

    // ---- 20: "TURNED, as a new PATCH: its number. UNKNOWN; FULL."
    // "HUNKS with what goes and what comes changed, at where they are in what came of it."

    static void promise20WhatGoesAndWhatComesChanged() {
        turnedIs("one", hunks(h(2, 1, 3)), 2, 1, 1, 3, 1);
        turnedIs("one that comes", hunks(h(2, NONE, 3)), 2, 1, 0, 3);
        turnedIs("one that goes", hunks(h(2, 3, NONE)), 2, 0, 1, 3);
    }

    static void promise20AtWhereTheyAreInWhatCameOfIt() {
        turnedIs("moved on by what came", hunks(h(0, NONE, 8), h(1, NONE, 9), h(3, 7, NONE)), 0, 1, 0, 8, 2, 1, 0, 9, 5, 0, 1, 7);
        turnedIs("moved back by what went", hunks(h(0, 8, NONE), h(3, NONE, 7)), 0, 0, 1, 8, 2, 1, 0, 7);
    }

    static void promise20OfABlankOne() {
        turnedIs("blank", hunks());
    }

    static void promise20LeadsBack() {
        KeptVersions k = withVersions(row(1, 2, 3, 4), row(9, 8, 1, 3, 7, 4));
        k.patch(0, 1);
        due("number", k.turn(0), 1);
        dueRow("hunks", told(k, 1), 0, 2, 0, 9, 8, 3, 0, 1, 2, 4, 1, 0, 7);
        k.take(1);
        due("lines", k.lay(1), 4);
        dueRow("desk", deskOf(k), 1, 2, 3, 4);
    }

    static void promise20OfTenHunksAndOf28Lines() {
        KeptVersions k = longPatches();
        int turned = k.turn(2);
        dueRow("28", row(k.of(turned, 0), k.of(turned, 1), k.of(turned, 2)), 1, 0, 28);
        int ten = k.blank();
        for (int n = 1; n <= 10; n++) {
            k.hunk(ten, n, NONE, n);
        }
        int back = k.turn(ten);
        dueRow("ten", row(k.of(back, 0), k.of(back, 1), k.of(back, 2), k.hunkOf(back, 9, 0), k.hunkOf(back, 9, 10)), 10, 10, 0, 19, 10);
    }

    static void promise20UnknownPatch() {
        KeptVersions k = withPatches(hunks());
        refused(k, UNKNOWN, () -> k.turn(1), () -> k.turn(NONE), () -> k.turn(LOW), () -> k.turn(HIGH));
    }

    static void promise20TwelvePatchesAtMost() {
        KeptVersions k = withPatches(hunks(h(0, 1, 2)));
        fillPatches(k, 11);
        due("the twelfth", k.turn(0), 11);
        refused(k, FULL, () -> k.turn(0), () -> k.turn(11));
    }

    static void promise20UnknownAheadOfFull() {
        KeptVersions k = new KeptVersions();
        fillPatches(k, 12);
        refused(k, UNKNOWN, () -> k.turn(12), () -> k.turn(NONE));
    }

    // ---- 21: "TOGETHER, as a new PATCH: its number."

    static void promise21OfBlankOnes() {
        togetherIs("both", hunks(), hunks());
        togetherIs("the second", hunks(h(2, 1, 3)), hunks(), 2, 1, 1, 1, 3);
        togetherIs("the first", hunks(), hunks(h(2, 1, 3)), 2, 1, 1, 1, 3);
    }

    static void promise21OthersStayAsForTheRowAheadOfP() {
        togetherIs("the second moved back", hunks(h(0, NONE, 1)), hunks(h(4, 7, NONE)), 0, 0, 1, 1, 3, 1, 0, 7);
        togetherIs("the second moved on", hunks(h(0, 1, NONE)), hunks(h(4, 7, NONE)), 0, 1, 0, 1, 5, 1, 0, 7);
        togetherIs("the second first", hunks(h(5, NONE, 1)), hunks(h(2, 7, NONE)), 2, 1, 0, 7, 5, 0, 1, 1);
    }

    static void promise21ThatOverlapBecomeOne() {
        togetherIs("one line changed twice", hunks(h(2, 1, 2)), hunks(h(2, 2, 3)), 2, 1, 1, 1, 3);
        togetherIs("what came goes", hunks(h(2, 1, 2)), hunks(h(2, 2, NONE)), 2, 1, 0, 1);
    }

    static void promise21OneBeginsWhereTheOtherEnds() {
        togetherIs("q behind p", hunks(h(2, 1, 2)), hunks(h(3, 8, 9)), 2, 2, 2, 1, 8, 2, 9);
        togetherIs("q ahead of p", hunks(h(2, 1, 2)), hunks(h(1, 8, 9)), 1, 2, 2, 8, 1, 9, 2);
        togetherIs("comes ahead of what came", hunks(h(2, NONE, 2)), hunks(h(2, NONE, 3)), 2, 0, 2, 3, 2);
        togetherIs("comes behind what came", hunks(h(2, NONE, 2)), hunks(h(3, NONE, 3)), 2, 0, 2, 2, 3);
        togetherIs("comes where one went", hunks(h(2, 1, NONE)), hunks(h(2, NONE, 3)), 2, 1, 1, 1, 3);
        togetherIs("goes ahead of what went", hunks(h(2, 1, NONE)), hunks(h(1, 8, NONE)), 1, 2, 0, 8, 1);
        togetherIs("goes behind what went", hunks(h(2, 1, NONE)), hunks(h(2, 8, NONE)), 2, 2, 0, 1, 8);
    }

    static void promise21ALineBetweenIsNoTouch() {
        togetherIs("behind", hunks(h(2, 1, 2)), hunks(h(4, 8, 9)), 2, 1, 1, 1, 2, 4, 1, 1, 8, 9);
        togetherIs("ahead", hunks(h(2, 1, 2)), hunks(h(0, 8, 9)), 0, 1, 1, 8, 9, 2, 1, 1, 1, 2);
        togetherIs("behind what went", hunks(h(2, 1, NONE)), hunks(h(3, NONE, 9)), 2, 1, 0, 1, 4, 0, 1, 9);
    }

    static void promise21ByWayOfOthers() {
        togetherIs("two of p by one of q", hunks(h(0, 1, 2), h(2, 3, 4)), hunks(h(1, 8, NONE)), 0, 3, 2, 1, 8, 3, 2, 4);
        togetherIs("two of q by one of p", hunks(h(2, NONE, 5)), hunks(h(2, NONE, 6), h(3, NONE, 7)), 2, 0, 3, 6, 5, 7);
        togetherIs("and one that stays", hunks(h(0, NONE, 5), h(1, 6, NONE)), hunks(h(1, 7, NONE), h(3, 9, NONE)),
            0, 2, 1, 7, 6, 5, 3, 1, 0, 9);
    }

    static void promise21OfLongHunks() {
        KeptVersions k = withVersions(row(1, 2, 3, 4, 5, 6), row(1, 20, 21, 3, 4, 6), row(1, 20, 30, 6));
        int both = k.together(k.patch(0, 1), k.patch(1, 2));
        // p: at 1 2 to 20 21, at 4 5 goes; q: at 2 21 3 4 to 30.
        dueRow("hunks", told(k, both), 1, 4, 2, 2, 3, 4, 5, 20, 30);
        k.take(0);
        due("laid", k.lay(both), 4);
        dueRow("desk", deskOf(k), 1, 20, 30, 6);
        due("there and back", k.of(k.together(both, k.turn(both)), 0), 0);
    }

    static void promise21TheSameGoesAndComesIsLeftOut() {
        togetherIs("changed and back", hunks(h(2, 1, 2)), hunks(h(2, 2, 1)));
        togetherIs("came and went", hunks(h(2, NONE, 2)), hunks(h(2, 2, NONE)));
        togetherIs("went and came", hunks(h(2, 2, NONE)), hunks(h(2, NONE, 2)));
        togetherIs("one of two", hunks(h(2, 1, 2), h(5, 6, 7)), hunks(h(2, 2, 1)), 5, 1, 1, 6, 7);
        togetherIs("beside one that stays", hunks(h(2, 1, 8)), hunks(h(2, 8, 1), h(4, 3, 4)), 4, 1, 1, 3, 4);
    }

    static void promise21TheSameFromTheStartIsLeftOutToo() {
        togetherIs("in the first", hunks(h(2, 1, 1)), hunks(h(8, 4, 5)), 8, 1, 1, 4, 5);
        togetherIs("in the second", hunks(h(2, 1, 3)), hunks(h(8, 4, 4)), 2, 1, 1, 1, 3);
    }

    static void promise21NotLeftOutWhereSomeLineDiffers() {
        togetherIs("in one line", hunks(h(2, 1, 2)), hunks(h(3, 2, 1)), 2, 2, 2, 1, 2, 2, 1);
        togetherIs("in how many", hunks(h(2, 1, 1)), hunks(h(3, NONE, 1)), 2, 1, 2, 1, 1, 1);
    }

    static void promise21OfAPatchWithItself() {
        KeptVersions k = withPatches(hunks(h(2, NONE, 7)));
        due("number", k.together(0, 0), 1);
        dueRow("hunks", told(k, 1), 2, 0, 2, 7, 7);
    }

    // "UNKNOWN; OUTSIDE: some LINE that q takes is not the one that p brought there;"
    // "FULL (also more than 10 HUNKS, or 28 LINES that go, or that come)."

    static void promise21UnknownPatches() {
        KeptVersions k = withPatches(hunks());
        refused(k, UNKNOWN, () -> k.together(1, 0), () -> k.together(NONE, 0), () -> k.together(LOW, 0), () -> k.together(HIGH, 0));
        refused(k, UNKNOWN, () -> k.together(0, 1), () -> k.together(0, NONE), () -> k.together(0, LOW), () -> k.together(0, HIGH));
    }

    static void promise21AnotherLineThanPBroughtIsOutside() {
        togetherIsRefused(OUTSIDE, hunks(h(2, 1, 2)), hunks(h(2, 3, 4)));
        togetherIsRefused(OUTSIDE, hunks(h(2, 1, 2)), hunks(h(2, 1, NONE)));
        togetherIsRefused(OUTSIDE, hunks(h(0, NONE, 9), h(2, 1, 2)), hunks(h(0, 9, NONE), h(3, 3, 4)));
    }

    static void promise21TheFirstAndTheLastLineThatPBrought() {
        KeptVersions k = withVersions(row(), row(1, 2, 3));
        k.patch(0, 1);
        int notFirst = made(k, h(0, 2, NONE));
        int notLast = made(k, h(2, 2, NONE));
        int last = made(k, h(2, 3, NONE));
        int behind = made(k, h(3, 2, NONE));
        refused(k, OUTSIDE, () -> k.together(0, notFirst), () -> k.together(0, notLast));
        int both = k.together(0, last);
        dueRow("the last one", told(k, both), 0, 0, 2, 1, 2);
        both = k.together(0, behind);
        dueRow("one behind what came may be any", told(k, both), 0, 1, 3, 2, 1, 2, 3);
    }

    static void promise21UnknownAheadOfFull() {
        KeptVersions k = new KeptVersions();
        fillPatches(k, 12);
        refused(k, UNKNOWN, () -> k.together(12, 0), () -> k.together(0, 12));
    }

    static void promise21OutsideAheadOfFull() {
        KeptVersions k = withPatches(hunks(h(2, 1, 2)), hunks(h(2, 3, 4)));
        fillPatches(k, 12);
        refused(k, OUTSIDE, () -> k.together(0, 1));
    }

    static void promise21TwelvePatchesAtMost() {
        KeptVersions k = withPatches(hunks(h(2, 1, 2)));
        fillPatches(k, 11);
        due("the twelfth", k.together(0, 1), 11);
        refused(k, FULL, () -> k.together(0, 1), () -> k.together(1, 1));
    }

    private static int[][] six() {
        return hunks(h(0, NONE, 1), h(2, NONE, 1), h(4, NONE, 1), h(6, NONE, 1), h(8, NONE, 1), h(10, NONE, 1));
    }

    static void promise21TenHunksAreFine() {
        // In the row between p's stand at 0, 3, 6, 9, 12, 15.
        KeptVersions k = withPatches(six(), hunks(h(2, NONE, 7), h(5, NONE, 7), h(8, NONE, 7), h(11, NONE, 7)));
        due("number", k.together(0, 1), 2);
        due("hunks", k.of(2, 0), 10);
        dueRow("the last two begin", row(k.hunkOf(2, 8, 0), k.hunkOf(2, 9, 0)), 8, 10);
    }

    static void promise21ElevenHunksAreFull() {
        togetherIsRefused(FULL, six(), hunks(h(2, NONE, 7), h(5, NONE, 7), h(8, NONE, 7), h(11, NONE, 7), h(14, NONE, 7)));
    }

    static void promise21HunksThatBecomeOneOrAreLeftOutAreNotCounted() {
        // 7 becomes one with the 1 at 3; the 1 at 0 goes again.
        KeptVersions k = withPatches(six(), hunks(h(0, 1, NONE), h(3, NONE, 7), h(5, NONE, 7), h(8, NONE, 7), h(11, NONE, 7), h(14, NONE, 7)));
        due("number", k.together(0, 1), 2);
        due("hunks", k.of(2, 0), 9);
    }

    static void promise21TwentyEightThatGoAreFine() {
        KeptVersions k = longPatches();
        due("number", k.together(0, 0), 4);
        due("lines that go", k.of(4, 1), 28);
    }

    static void promise21TwentyNineThatGoAreFull() {
        KeptVersions k = longPatches();
        int touching = made(k, h(0, 5, NONE));
        int apart = made(k, h(3, 5, NONE));
        refused(k, FULL, () -> k.together(2, touching), () -> k.together(2, apart), () -> k.together(2, 0), () -> k.together(2, 2));
    }

    static void promise21TwentyEightThatComeAreFine() {
        KeptVersions k = longPatches();
        due("number", k.together(1, 1), 4);
        due("lines that come", k.of(4, 2), 28);
    }

    static void promise21TwentyNineThatComeAreFull() {
        KeptVersions k = longPatches();
        int touching = made(k, h(0, NONE, 5));
        int apart = made(k, h(3, NONE, 5));
        refused(k, FULL, () -> k.together(touching, 3), () -> k.together(apart, 3), () -> k.together(1, 3), () -> k.together(3, 3));
    }

    static void promise21TwentyEightThatGoAndComeAgainAreLeftOut() {
        KeptVersions k = longPatches();
        due("went and came", k.of(k.together(2, 3), 0), 0);
        due("came and went", k.of(k.together(3, 2), 0), 0);
    }

    static void promise21TwentyNineThatAreLeftOutAreNotCounted() {
        KeptVersions k = withVersions(repeated(14, 5), row(), row(9), row(9, 5, 5, 5, 5, 5, 5, 5, 5, 5, 5, 5, 5, 5));
        int takes14 = k.patch(0, 1);
        int brings13 = k.patch(2, 3);
        int p = k.together(k.together(takes14, takes14), made(k, h(0, NONE, 5)));
        int brings1 = made(k, h(1, NONE, 5));
        int q = k.together(made(k, h(1, 5, NONE)), brings13);
        q = k.together(k.together(k.together(q, brings13), brings1), brings1);
        dueRow("p", row(k.of(p, 0), k.of(p, 1), k.of(p, 2)), 1, 28, 1);
        dueRow("q", row(k.of(q, 0), k.of(q, 1), k.of(q, 2), k.hunkOf(q, 0, 0)), 1, 1, 28, 1);
        // 29 like lines would go, and 29 would come.
        due("number", k.together(p, q), 11);
        due("hunks", k.of(11, 0), 0);
    }

    // ---- 22: "SWAPPED, as two new PATCHES: the number of the first (q's); the next one is p's. UNKNOWN; STATE: some touch; FULL."
    // "q first, as for the row ahead of p, then p, as for what comes of that."

    static void promise22SecondAheadOfFirst() {
        swappedIs("behind one that comes", hunks(h(0, NONE, 1)), hunks(h(4, 7, NONE)), row(3, 1, 0, 7), row(0, 0, 1, 1));
        swappedIs("behind one that goes", hunks(h(0, 1, NONE)), hunks(h(4, 7, NONE)), row(5, 1, 0, 7), row(0, 1, 0, 1));
        swappedIs("ahead of one, and one goes", hunks(h(5, NONE, 1)), hunks(h(2, 7, NONE)), row(2, 1, 0, 7), row(4, 0, 1, 1));
        swappedIs("ahead of one, and one comes", hunks(h(5, 3, NONE)), hunks(h(2, NONE, 7)), row(2, 0, 1, 7), row(6, 1, 0, 3));
    }

    static void promise22BothWaysLeadToOneRow() {
        // In the row between p's stand at 1 (none) and at 5 (one line).
        KeptVersions k = withPatches(hunks(h(1, 5, NONE), h(6, NONE, 6)), hunks(h(3, 9, NONE), h(7, NONE, 8), h(9, 2, 3)));
        due("number", k.swap(0, 1), 2);
        dueRow("q's", told(k, 2), 4, 1, 0, 9, 7, 0, 1, 8, 9, 1, 1, 2, 3);
        dueRow("p's", told(k, 3), 1, 1, 0, 5, 5, 0, 1, 6);
        setDesk(k, 0, 5, 0, 0, 9, 1, 1, 1, 1, 2);
        k.lay(0);
        k.lay(1);
        int[] one = deskOf(k);
        setDesk(k, 0, 5, 0, 0, 9, 1, 1, 1, 1, 2);
        due("q's laid", k.lay(2), 10);
        due("p's laid", k.lay(3), 10);
        dueRow("desk", deskOf(k), one);
    }

    static void promise22OfBlankOnes() {
        swappedIs("both", hunks(), hunks(), row(), row());
        swappedIs("the first", hunks(), hunks(h(2, 1, 3)), row(2, 1, 1, 1, 3), row());
        swappedIs("the second", hunks(h(2, 1, 3)), hunks(), row(), row(2, 1, 1, 1, 3));
    }

    static void promise22ALineBetweenIsNoTouch() {
        swappedIs("behind", hunks(h(2, 1, 2)), hunks(h(4, 8, 9)), row(4, 1, 1, 8, 9), row(2, 1, 1, 1, 2));
        swappedIs("ahead", hunks(h(2, 1, 2)), hunks(h(0, 8, 9)), row(0, 1, 1, 8, 9), row(2, 1, 1, 1, 2));
        swappedIs("none left between", hunks(h(2, 1, NONE)), hunks(h(3, NONE, 9)), row(4, 0, 1, 9), row(2, 1, 0, 1));
    }

    static void promise22OverlapIsState() {
        swapIsRefused(hunks(h(2, 1, 2)), hunks(h(2, 2, 3)));
        swapIsRefused(hunks(h(2, NONE, 2)), hunks(h(2, 5, NONE)));
    }

    static void promise22OneBeginsWhereTheOtherEndsIsState() {
        swapIsRefused(hunks(h(2, 1, 2)), hunks(h(3, 8, 9)));
        swapIsRefused(hunks(h(2, 1, 2)), hunks(h(1, 8, 9)));
        swapIsRefused(hunks(h(2, 1, NONE)), hunks(h(2, NONE, 3)));
        swapIsRefused(hunks(h(2, 1, NONE)), hunks(h(1, 8, NONE)));
        swapIsRefused(hunks(h(2, 1, NONE)), hunks(h(2, 8, NONE)));
    }

    static void promise22OneOfManyTouchesIsState() {
        swapIsRefused(hunks(h(0, 1, 2), h(5, NONE, 2)), hunks(h(2, 8, 9), h(6, 8, 9)));
    }

    static void promise22UnknownPatches() {
        KeptVersions k = withPatches(hunks());
        refused(k, UNKNOWN, () -> k.swap(1, 0), () -> k.swap(NONE, 0), () -> k.swap(LOW, 0), () -> k.swap(HIGH, 0));
        refused(k, UNKNOWN, () -> k.swap(0, 1), () -> k.swap(0, NONE), () -> k.swap(0, LOW), () -> k.swap(0, HIGH));
    }

    static void promise22TheLastTwo() {
        KeptVersions k = withPatches(hunks(h(1, 5, NONE)), hunks(h(3, 9, NONE)));
        fillPatches(k, 10);
        due("number", k.swap(0, 1), 10);
        due("patches", k.count(2), 12);
        refused(k, FULL, () -> k.swap(0, 1));
    }

    static void promise22RoomForOneAloneIsFull() {
        KeptVersions k = withPatches(hunks(h(1, 5, NONE)), hunks(h(3, 9, NONE)));
        fillPatches(k, 11);
        refused(k, FULL, () -> k.swap(0, 1), () -> k.swap(2, 3));
        due("patches", k.count(2), 11);
    }

    static void promise22UnknownAndStateAheadOfFull() {
        KeptVersions k = withPatches(hunks(h(1, 5, NONE)), hunks(h(1, 9, NONE)));
        fillPatches(k, 12);
        refused(k, UNKNOWN, () -> k.swap(12, 0), () -> k.swap(0, 12));
        refused(k, STATE, () -> k.swap(0, 1), () -> k.swap(0, 0));
    }
}
