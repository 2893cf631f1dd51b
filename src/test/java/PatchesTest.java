/**
 * Promises 12 to 16, patches and their hunks: a test for each sentence, named after its promise.
 */
public final class PatchesTest extends Checks {
    public static void main(String[] args) {
        runAll(PatchesTest.class, 12, 16);
    }

    private static void patchIs(String what, int[] x, int[] y, int... want) {
        KeptVersions k = withVersions(x, y);
        due(what, k.patch(0, 1), 0);
        dueRow(what, told(k, 0), want);
    }

    /** A patch by which so many lines come at 0. */
    private static int comingAt0(KeptVersions k, int lines) {
        int all = k.patch(version(k), version(k, repeated(14, 3)));
        int rest = k.patch(version(k), version(k, repeated(lines - 14, 3)));
        return k.together(all, rest);
    }

    // ---- 12: "A PATCH of THE DIFFERENCE: its number. UNKNOWN; FULL."

    static void promise12HunksOfEachStretch() {
        patchIs("at the front, within, at the end", row(1, 2, 3, 4), row(9, 1, 3, 8, 7), 0, 0, 1, 9, 1, 1, 0, 2, 3, 1, 2, 4, 8, 7);
        patchIs("of several lines", row(1, 2, 3, 4, 5), row(1, 6, 7, 8, 5, 9), 1, 3, 3, 2, 3, 4, 6, 7, 8, 5, 0, 1, 9);
    }

    static void promise12NoHunkWhereNoneGoesAndNoneComes() {
        patchIs("like rows", row(1, 2, 3), row(1, 2, 3));
        patchIs("empty rows", row(), row());
    }

    static void promise12FromAndToAnEmptyRow() {
        patchIs("comes", row(), row(4, 5), 0, 0, 2, 4, 5);
        patchIs("goes", row(4, 5), row(), 0, 2, 0, 4, 5);
    }

    static void promise12OfFullRows() {
        KeptVersions k = withVersions(rising(14, 1), rising(14, 51));
        k.patch(0, 1);
        dueRow("hunk", row(k.of(0, 0), k.hunkOf(0, 0, 0), k.of(0, 1), k.of(0, 2)), 1, 0, 14, 14);
        dueRow("its ends", row(k.hunkOf(0, 0, 10), k.hunkOf(0, 0, 23), k.hunkOf(0, 0, 40), k.hunkOf(0, 0, 53)), 1, 14, 51, 64);
    }

    static void promise12TenHunks() {
        int[] young = row(1, 60, 2, 61, 3, 62, 4, 5, 6, 7, 8, 63, 9, 64);
        KeptVersions k = withVersions(row(50, 1, 2, 3, 4, 51, 5, 52, 6, 53, 7, 54, 8, 9), young);
        k.patch(0, 1);
        due("hunks", k.of(0, 0), 10);
        k.take(0);
        due("laid", k.lay(0), 14);
        dueRow("desk", deskOf(k), young);
    }

    static void promise12OfAVersionToItself() {
        KeptVersions k = withVersions(row(1, 2));
        due("number", k.patch(0, 0), 0);
        due("hunks", k.of(0, 0), 0);
    }

    static void promise12UnknownVersions() {
        KeptVersions k = withVersions(row(1), row(2));
        refused(k, UNKNOWN, () -> k.patch(2, 0), () -> k.patch(NONE, 0), () -> k.patch(LOW, 0), () -> k.patch(HIGH, 0));
        refused(k, UNKNOWN, () -> k.patch(0, 2), () -> k.patch(0, NONE), () -> k.patch(0, LOW), () -> k.patch(0, HIGH));
    }

    static void promise12TwelveAtMost() {
        KeptVersions k = withVersions(row(1), row(2));
        for (int n = 0; n < 12; n++) {
            due("number", k.patch(0, 1), n);
        }
        refused(k, FULL, () -> k.patch(0, 1), () -> k.patch(1, 1));
        due("patches", k.count(2), 12);
    }

    static void promise12UnknownAheadOfFull() {
        KeptVersions k = withVersions(row(1), row(2));
        fillPatches(k, 12);
        refused(k, UNKNOWN, () -> k.patch(2, 0), () -> k.patch(0, 2));
    }

    // ---- 13: "A PATCH with no HUNKS: its number. FULL."

    static void promise13NoHunks() {
        KeptVersions k = new KeptVersions();
        due("number", k.blank(), 0);
        dueRow("told", row(k.of(0, 0), k.of(0, 1), k.of(0, 2), k.of(0, 3)), 0, 0, 0, 1);
    }

    static void promise13TwelveAtMost() {
        KeptVersions k = new KeptVersions();
        for (int n = 0; n < 12; n++) {
            due("number", k.blank(), n);
        }
        refused(k, FULL, () -> k.blank());
        due("patches", k.count(2), 12);
    }

    static void promise13EachIsItsOwn() {
        KeptVersions k = withPatches(hunks(h(0, 1, 2)), hunks());
        due("the other one's hunks", k.of(1, 0), 0);
        due("this one's", k.of(0, 0), 1);
    }

    // ---- 14: "A HUNK of one LINE that goes (or none: NONE) and one that comes (or none: NONE) comes behind the others"
    // "beginning so far (0 to 14): how many HUNKS."

    static void promise14OneGoesOneComes() {
        KeptVersions k = withPatches(hunks());
        due("first", k.hunk(0, 2, 7, 8), 1);
        due("second", k.hunk(0, 4, 5, 5), 2);
        dueRow("hunks", told(k, 0), 2, 1, 1, 7, 8, 4, 1, 1, 5, 5);
    }

    static void promise14NoneGoes() {
        KeptVersions k = withPatches(hunks());
        due("hunks", k.hunk(0, 2, NONE, 8), 1);
        dueRow("hunk", told(k, 0), 2, 0, 1, 8);
    }

    static void promise14NoneComes() {
        KeptVersions k = withPatches(hunks());
        due("hunks", k.hunk(0, 2, 8, NONE), 1);
        dueRow("hunk", told(k, 0), 2, 1, 0, 8);
    }

    static void promise14AtFrom0To14() {
        KeptVersions k = withPatches(hunks());
        due("at 0", k.hunk(0, 0, 1, NONE), 1);
        due("at 14", k.hunk(0, 14, 1, NONE), 2);
        dueRow("begin", row(k.hunkOf(0, 0, 0), k.hunkOf(0, 1, 0)), 0, 14);
    }

    static void promise14AtBelow0IsOutside() {
        KeptVersions k = withPatches(hunks());
        refused(k, OUTSIDE, () -> k.hunk(0, -1, 1, 1), () -> k.hunk(0, LOW, 1, 1));
    }

    static void promise14AtAbove14IsOutside() {
        KeptVersions k = withPatches(hunks());
        refused(k, OUTSIDE, () -> k.hunk(0, 15, 1, 1), () -> k.hunk(0, HIGH, 1, 1));
    }

    static void promise14LinesFrom0To99() {
        KeptVersions k = withPatches(hunks());
        k.hunk(0, 0, 0, 99);
        k.hunk(0, 2, 99, 0);
        dueRow("hunks", told(k, 0), 0, 1, 1, 0, 99, 2, 1, 1, 99, 0);
    }

    static void promise14LineThatGoesOutside() {
        KeptVersions k = withPatches(hunks());
        refused(k, OUTSIDE, () -> k.hunk(0, 0, -2, 1), () -> k.hunk(0, 0, 100, 1), () -> k.hunk(0, 0, LOW, 1), () -> k.hunk(0, 0, HIGH, 1));
        refused(k, OUTSIDE, () -> k.hunk(0, 0, -2, NONE), () -> k.hunk(0, 0, 100, NONE));
    }

    static void promise14LineThatComesOutside() {
        KeptVersions k = withPatches(hunks());
        refused(k, OUTSIDE, () -> k.hunk(0, 0, 1, -2), () -> k.hunk(0, 0, 1, 100), () -> k.hunk(0, 0, 1, LOW), () -> k.hunk(0, 0, 1, HIGH));
        refused(k, OUTSIDE, () -> k.hunk(0, 0, NONE, -2), () -> k.hunk(0, 0, NONE, 100));
    }

    static void promise14BothNoneIsOutside() {
        KeptVersions k = withPatches(hunks());
        refused(k, OUTSIDE, () -> k.hunk(0, 0, NONE, NONE), () -> k.hunk(0, 14, NONE, NONE));
    }

    static void promise14AheadOfWhereTheHunkAheadEndsIsOutside() {
        KeptVersions k = withVersions(row(1, 2, 3, 4, 5), row(1, 5));
        k.patch(0, 1);
        refused(k, OUTSIDE, () -> k.hunk(0, 0, NONE, 9), () -> k.hunk(0, 1, NONE, 9), () -> k.hunk(0, 3, NONE, 9));
    }

    static void promise14WhereTheHunkAheadEndsIsOutside() {
        KeptVersions k = withVersions(row(1, 2, 3, 4, 5), row(1, 5));
        k.patch(0, 1);
        refused(k, OUTSIDE, () -> k.hunk(0, 4, NONE, 9), () -> k.hunk(0, 4, 5, NONE));
        due("a line further", k.hunk(0, 5, NONE, 9), 2);
    }

    static void promise14TouchesOneThatTakesNone() {
        KeptVersions k = withPatches(hunks(h(3, NONE, 7)));
        refused(k, OUTSIDE, () -> k.hunk(0, 3, NONE, 8), () -> k.hunk(0, 3, 5, NONE), () -> k.hunk(0, 2, 5, NONE));
        due("a line further", k.hunk(0, 4, NONE, 9), 2);
    }

    static void promise14TheEndIsByWhatGoesNotByWhatComes() {
        KeptVersions k = withVersions(row(), rising(6, 1));
        k.patch(0, 1);
        due("six come at 0, none goes", k.hunk(0, 1, 5, NONE), 2);
    }

    static void promise14BehindAHunkAt14NoneMayBegin() {
        KeptVersions k = withPatches(hunks(h(14, NONE, 7)));
        refused(k, OUTSIDE, () -> k.hunk(0, 14, NONE, 8), () -> k.hunk(0, 15, NONE, 8));
    }

    static void promise14UnknownPatch() {
        KeptVersions k = withPatches(hunks());
        refused(k, UNKNOWN, () -> k.hunk(1, 0, 1, 1), () -> k.hunk(NONE, 0, 1, 1), () -> k.hunk(LOW, 0, 1, 1), () -> k.hunk(HIGH, 0, 1, 1));
    }

    static void promise14UnknownAheadOfOutside() {
        KeptVersions k = withPatches(hunks());
        refused(k, UNKNOWN, () -> k.hunk(1, 15, 1, 1), () -> k.hunk(1, 0, NONE, NONE), () -> k.hunk(NONE, 0, 100, 1));
    }

    static void promise14TenHunksAtMost() {
        KeptVersions k = withPatches(hunks());
        for (int n = 1; n <= 10; n++) {
            due("hunk", k.hunk(0, n, NONE, n), n);
        }
        refused(k, FULL, () -> k.hunk(0, 11, NONE, 1), () -> k.hunk(0, 14, 1, NONE));
        due("hunks", k.of(0, 0), 10);
    }

    static void promise14OutsideAheadOfFull() {
        KeptVersions k = withPatches(hunks());
        for (int n = 1; n <= 10; n++) {
            k.hunk(0, n, NONE, n);
        }
        refused(k, OUTSIDE, () -> k.hunk(0, 10, NONE, 1), () -> k.hunk(0, 15, NONE, 1), () -> k.hunk(0, 12, NONE, NONE),
            () -> k.hunk(0, 12, 100, NONE));
    }

    static void promise14TwentyEightComeAtMost() {
        KeptVersions k = new KeptVersions();
        int p = comingAt0(k, 27);
        due("the 28th", k.hunk(p, 2, NONE, 9), 2);
        due("lines that come", k.of(p, 2), 28);
        refused(k, FULL, () -> k.hunk(p, 4, NONE, 9), () -> k.hunk(p, 4, 9, 9));
        due("none comes", k.hunk(p, 4, 9, NONE), 3);
    }

    static void promise14BehindTwentyEightThatGoNoneMayBegin() {
        KeptVersions k = new KeptVersions();
        int turned = k.turn(comingAt0(k, 28));
        due("lines that go", k.of(turned, 1), 28);
        refused(k, OUTSIDE, () -> k.hunk(turned, 14, 1, NONE), () -> k.hunk(turned, 28, 1, NONE), () -> k.hunk(turned, 29, 1, NONE));
    }

    // ---- 15: "what = 0 HUNKS, 1 LINES that go, 2 that come, 3 ROOM. UNKNOWN; OUTSIDE."

    static void promise15OfOrdinaryPatches() {
        KeptVersions k = withPatches(hunks(h(0, 1, 2), h(3, 1, NONE), h(6, NONE, 2), h(8, NONE, 2)));
        dueRow("told", row(k.of(0, 0), k.of(0, 1), k.of(0, 2), k.of(0, 3)), 4, 2, 3, 12);
    }

    static void promise15OfABlankOne() {
        KeptVersions k = withPatches(hunks());
        dueRow("told", row(k.of(0, 0), k.of(0, 1), k.of(0, 2), k.of(0, 3)), 0, 0, 0, 1);
    }

    static void promise15OfFullOnes() {
        KeptVersions k = new KeptVersions();
        int coming = comingAt0(k, 28);
        int going = k.turn(coming);
        dueRow("28 come", row(k.of(coming, 0), k.of(coming, 1), k.of(coming, 2), k.of(coming, 3)), 1, 0, 28, 31);
        dueRow("28 go", row(k.of(going, 0), k.of(going, 1), k.of(going, 2), k.of(going, 3)), 1, 28, 0, 3);
    }

    static void promise15UnknownPatch() {
        KeptVersions k = withPatches(hunks());
        refused(k, UNKNOWN, () -> k.of(1, 0), () -> k.of(NONE, 0), () -> k.of(LOW, 0), () -> k.of(HIGH, 0));
    }

    static void promise15WhatOutside() {
        KeptVersions k = withPatches(hunks(h(0, 1, 2)));
        refused(k, OUTSIDE, () -> k.of(0, -1), () -> k.of(0, 4), () -> k.of(0, LOW), () -> k.of(0, HIGH));
    }

    static void promise15UnknownAheadOfOutside() {
        KeptVersions k = withPatches(hunks());
        refused(k, UNKNOWN, () -> k.of(1, 4), () -> k.of(NONE, -1));
    }

    // ---- 16: "what = 0 where it begins, 1 how many go, 2 how many come, 10 and k the k-th that goes, 40 and k that comes (NONE)."
    // "UNKNOWN: patch, i; OUTSIDE: what (10 to 37, 40 to 67 else)."

    private static KeptVersions oneHunk() {
        KeptVersions k = withVersions(row(1, 2, 3), row(1, 8, 7, 6));
        k.patch(0, 1);
        return k;
    }

    static void promise16OfOrdinaryHunks() {
        KeptVersions k = oneHunk();
        dueRow("numbers", row(k.hunkOf(0, 0, 0), k.hunkOf(0, 0, 1), k.hunkOf(0, 0, 2)), 1, 2, 3);
        dueRow("go", row(k.hunkOf(0, 0, 10), k.hunkOf(0, 0, 11)), 2, 3);
        dueRow("come", row(k.hunkOf(0, 0, 40), k.hunkOf(0, 0, 41), k.hunkOf(0, 0, 42)), 8, 7, 6);
    }

    static void promise16EachHunkHasItsOwnLines() {
        KeptVersions k = withPatches(hunks(h(0, 1, 2), h(3, NONE, 4), h(6, 5, NONE)));
        dueRow("go", row(k.hunkOf(0, 0, 10), k.hunkOf(0, 1, 10), k.hunkOf(0, 2, 10), k.hunkOf(0, 0, 11)), 1, NONE, 5, NONE);
        dueRow("come", row(k.hunkOf(0, 0, 40), k.hunkOf(0, 1, 40), k.hunkOf(0, 2, 40), k.hunkOf(0, 0, 41)), 2, 4, NONE, NONE);
    }

    static void promise16NoneBehindItsLines() {
        KeptVersions k = oneHunk();
        dueRow("go", row(k.hunkOf(0, 0, 12), k.hunkOf(0, 0, 37)), NONE, NONE);
        dueRow("come", row(k.hunkOf(0, 0, 43), k.hunkOf(0, 0, 67)), NONE, NONE);
    }

    static void promise16TheLastOf28() {
        KeptVersions k = withVersions(row(), rising(14, 1));
        int coming = k.together(k.patch(0, 1), k.patch(0, 1));
        int going = k.turn(coming);
        dueRow("comes", row(k.hunkOf(coming, 0, 2), k.hunkOf(coming, 0, 67)), 28, 14);
        dueRow("goes", row(k.hunkOf(going, 0, 1), k.hunkOf(going, 0, 37)), 28, 14);
    }

    static void promise16UnknownPatch() {
        KeptVersions k = oneHunk();
        refused(k, UNKNOWN, () -> k.hunkOf(1, 0, 0), () -> k.hunkOf(NONE, 0, 0), () -> k.hunkOf(LOW, 0, 0), () -> k.hunkOf(HIGH, 0, 0));
    }

    static void promise16UnknownHunk() {
        KeptVersions k = oneHunk();
        k.blank();
        refused(k, UNKNOWN, () -> k.hunkOf(0, 1, 0), () -> k.hunkOf(0, -1, 0), () -> k.hunkOf(0, LOW, 0), () -> k.hunkOf(0, HIGH, 0));
        refused(k, UNKNOWN, () -> k.hunkOf(1, 0, 0), () -> k.hunkOf(1, 0, 40));
    }

    static void promise16WhatOutside() {
        KeptVersions k = oneHunk();
        refused(k, OUTSIDE, () -> k.hunkOf(0, 0, -1), () -> k.hunkOf(0, 0, 3), () -> k.hunkOf(0, 0, 9), () -> k.hunkOf(0, 0, 38),
            () -> k.hunkOf(0, 0, 39), () -> k.hunkOf(0, 0, 68), () -> k.hunkOf(0, 0, LOW), () -> k.hunkOf(0, 0, HIGH));
    }

    static void promise16UnknownAheadOfOutside() {
        KeptVersions k = oneHunk();
        refused(k, UNKNOWN, () -> k.hunkOf(1, 0, 3), () -> k.hunkOf(0, 1, 38), () -> k.hunkOf(0, -1, 68));
    }
}
