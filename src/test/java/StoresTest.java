/**
 * Promises 27 to 29, stores: a test for each sentence, named after its promise.
 */
public final class StoresTest extends Checks {
    public static void main(String[] args) {
        runAll(StoresTest.class, 27, 29);
    }

    /**
     * Versions of six, seven and eight lines, each with one more at the end. Whole they take 7, 8, 9;
     * from 0 to 1: 4, from 1 to 2: 4, from 0 to 2: 5, and each way back: 3.
     */
    private static KeptVersions growing() {
        return withVersions(rising(6, 1), rising(7, 1), rising(8, 1));
    }

    private static KeptVersions growing(int... asked) {
        KeptVersions k = growing();
        for (int i = 0; i < asked.length; i++) {
            k.asked(i, asked[i]);
        }
        return k;
    }

    private static KeptVersions alike(int versions, int... lines) {
        KeptVersions k = withDesk(lines);
        for (int n = 0; n < versions; n++) {
            k.keep(NONE, NONE);
        }
        return k;
    }

    private static int[] sources(KeptVersions k, int n, int bound) {
        int[] sources = new int[n];
        for (int i = 0; i < n; i++) {
            sources[i] = k.store(n, bound, 10 + i);
        }
        return sources;
    }

    private static int[] remade(KeptVersions k, int n, int bound) {
        int[] remade = new int[n];
        for (int i = 0; i < n; i++) {
            remade[i] = k.store(n, bound, 20 + i);
        }
        return remade;
    }

    // ---- 27: "what = 0 ROOM (NONE: there is none), 1 the sum by ASKED, 10 and i from which VERSION i comes (NONE: it is whole;"
    // "-2: there is no such VERSION, or no STORE), 20 and i what VERSION i is REMADE for (the same -2)."

    static void promise27OneVersionAlone() {
        KeptVersions k = growing(9);
        dueRow("room, sum, from, remade", row(k.store(1, 99, 0), k.store(1, 99, 1), k.store(1, 99, 10), k.store(1, 99, 20)), 7, 63, NONE, 7);
    }

    static void promise27LeastRoomAndOfLikeOnesLeastSum() {
        // Of room 15: from 1 (sum 11 + 8 + 12), from 0 by way of 1 (7 + 11 + 15), from 2 (12 + 12 + 9).
        KeptVersions k = growing();
        dueRow("room, sum", row(k.store(3, 99, 0), k.store(3, 99, 1)), 15, 31);
        dueRow("from", sources(k, 3, 99), 1, NONE, 1);
        dueRow("remade", remade(k, 3, 99), 11, 8, 12);
    }

    static void promise27TheSumIsByAsked() {
        // Sums of room 15: from 1: 99 + 8 + 12; from 0: 63 + 11 + 15; from 2: 108 + 12 + 9.
        KeptVersions k = growing(9);
        due("sum", k.store(3, 99, 1), 89);
        dueRow("from", sources(k, 3, 99), NONE, 0, 1);
        KeptVersions last = growing(1, 1, 9);
        due("sum with 9 for the last", last.store(3, 99, 1), 12 + 12 + 81);
        dueRow("from with 9 for the last", sources(last, 3, 99), 2, 2, NONE);
    }

    static void promise27TheSumIsLessByOne() {
        // Sums of room 15: from 0: 14 + 22 + 15; from 1: 22 + 16 + 12; from 2: 24 + 24 + 9.
        KeptVersions k = growing(2, 2, 1);
        due("sum", k.store(3, 99, 1), 50);
        dueRow("from", sources(k, 3, 99), 1, NONE, 1);
    }

    static void promise27AskedOfNoneMakesNoSum() {
        KeptVersions k = growing(0, 0, 0);
        dueRow("room, sum", row(k.store(3, 99, 0), k.store(3, 99, 1)), 15, 0);
        // All sums are like, and 0 whole is ahead of all; then 1 from 0, and 2 from 1, as from 0 takes more.
        dueRow("from", sources(k, 3, 99), NONE, 0, 1);
    }

    static void promise27LeastRoomAheadOfLeastSum() {
        // All whole the sum would be 24; the room is 15 all the same.
        KeptVersions k = growing();
        due("room", k.store(3, 999, 0), 15);
        due("sum", k.store(3, 999, 1), 31);
    }

    static void promise27OfLikeOnesVersion0FromTheLeast() {
        // 2 is whole; 0 comes from 1 or from 2, for 3 each, and no more is asked of it.
        KeptVersions k = growing(0, 0, 1);
        dueRow("room, sum", row(k.store(3, 99, 0), k.store(3, 99, 1)), 15, 9);
        dueRow("from", sources(k, 3, 99), 1, 2, NONE);
    }

    static void promise27OfLikeOnesWholeIsAheadOfAll() {
        KeptVersions k = alike(2, 4, 4, 4);
        dueRow("room, sum", row(k.store(2, 99, 0), k.store(2, 99, 1)), 5, 9);
        dueRow("from", sources(k, 2, 99), NONE, 0);
    }

    static void promise27OfLikeOnesThenVersion1AndSoOn() {
        KeptVersions k = alike(6, 4, 4, 4);
        for (int i = 0; i < 6; i++) {
            k.asked(i, 0);
        }
        // Each may come from any other for 1.
        dueRow("from", sources(k, 6, 999), NONE, 0, 0, 0, 0, 0);
        dueRow("remade", remade(k, 6, 999), 4, 5, 5, 5, 5, 5);
    }

    static void promise27NoneComesFromItselfByWayOfOthers() {
        // In a ring three like ones would take 3 in all; one must be whole.
        KeptVersions k = alike(3, 4, 4, 4);
        due("room", k.store(3, 999, 0), 4 + 1 + 1);
        KeptVersions empty = alike(3);
        due("room of empty ones", empty.store(3, 999, 0), 3);
        dueRow("empty ones are whole", sources(empty, 3, 999), NONE, NONE, NONE);
    }

    static void promise27RemadeByAllOnTheWay() {
        KeptVersions k = growing(9);
        dueRow("0 whole, 1 from 0, 2 from 1", remade(k, 3, 99), 7, 7 + 4, 7 + 4 + 4);
    }

    static void promise27WithinTheBoundJustSo() {
        // The one that takes least is remade for 12 at most; with 11 two must be whole: 0 and 2, as the sum is 27, not 28.
        KeptVersions k = growing();
        due("within 12", k.store(3, 12, 0), 15);
        dueRow("within 11", row(k.store(3, 11, 0), k.store(3, 11, 1)), 20, 27);
        dueRow("from within 11", sources(k, 3, 11), NONE, 0, NONE);
        due("within 10", k.store(3, 10, 0), 24);
        due("within 9, the greatest whole", k.store(3, 9, 0), 24);
        due("within 8", k.store(3, 8, 0), NONE);
    }

    static void promise27NoStoreIsNone() {
        KeptVersions k = growing();
        dueRow("room, sum", row(k.store(3, 8, 0), k.store(3, 8, 1)), NONE, NONE);
        due("of one within 7", k.store(1, 7, 0), 7);
        due("of one within 6", k.store(1, 6, 0), NONE);
    }

    static void promise27NoStoreTellsMinus2() {
        KeptVersions k = growing();
        dueRow("from", sources(k, 3, 8), -2, -2, -2);
        dueRow("remade", remade(k, 3, 8), -2, -2, -2);
    }

    static void promise27NoSuchVersionTellsMinus2() {
        KeptVersions k = growing();
        dueRow("from 3, 4, 5", row(k.store(3, 99, 13), k.store(3, 99, 14), k.store(3, 99, 15)), -2, -2, -2);
        dueRow("remade 3, 4, 5", row(k.store(3, 99, 23), k.store(3, 99, 24), k.store(3, 99, 25)), -2, -2, -2);
        dueRow("not in a store of two", row(k.store(2, 99, 12), k.store(2, 99, 22)), -2, -2);
    }

    static void promise27AnEarlierStoreLeavesNothingBehind() {
        KeptVersions k = growing();
        k.store(3, 99, 0);
        due("none within 6", k.store(2, 6, 0), NONE);
        due("of two", k.store(2, 99, 0), 11);
        k.asked(0, 0);
        due("by what is asked now", k.store(1, 99, 1), 0);
    }

    // "OUTSIDE: n (1 to 6, VERSIONS that are there), bound, what (10 to 15, 20 to 25 else);"

    static void promise27NFrom1To6() {
        KeptVersions k = alike(7, 4);
        due("1", k.store(1, 99, 0), 2);
        due("6", k.store(6, 99, 0), 7);
        due("the last of 6", k.store(6, 99, 25), 3);
        refused(k, OUTSIDE, () -> k.store(0, 99, 0), () -> k.store(7, 99, 0), () -> k.store(-1, 99, 0), () -> k.store(LOW, 99, 0),
            () -> k.store(HIGH, 99, 0));
    }

    static void promise27NOfVersionsThatAreThere() {
        KeptVersions k = new KeptVersions();
        refused(k, OUTSIDE, () -> k.store(1, 99, 0));
        k.keep(NONE, NONE);
        k.keep(NONE, NONE);
        due("both", k.store(2, 99, 0), 2);
        refused(k, OUTSIDE, () -> k.store(3, 99, 0), () -> k.store(6, 99, 0));
    }

    static void promise27BoundFrom1To999() {
        KeptVersions k = alike(2);
        due("1", k.store(2, 1, 0), 2);
        due("999", k.store(2, 999, 0), 2);
        refused(k, OUTSIDE, () -> k.store(2, 0, 0), () -> k.store(2, 1000, 0), () -> k.store(2, -1, 0), () -> k.store(2, LOW, 0),
            () -> k.store(2, HIGH, 0));
    }

    static void promise27WhatOutside() {
        KeptVersions k = alike(6, 4);
        refused(k, OUTSIDE, () -> k.store(6, 99, -1), () -> k.store(6, 99, 2), () -> k.store(6, 99, 9), () -> k.store(6, 99, 16),
            () -> k.store(6, 99, 19), () -> k.store(6, 99, 26), () -> k.store(6, 99, LOW), () -> k.store(6, 99, HIGH));
        dueRow("the least and the greatest", row(k.store(6, 99, 10), k.store(6, 99, 15), k.store(6, 99, 20), k.store(6, 99, 25)), NONE, 0, 2, 3);
    }

    static void promise27OfFullRows() {
        KeptVersions k = withVersions(rising(14, 1), rising(14, 15), rising(14, 29), rising(14, 43), rising(14, 57), rising(14, 71));
        dueRow("all whole", sources(k, 6, 999), repeated(6, NONE));
        dueRow("room, sum", row(k.store(6, 999, 0), k.store(6, 999, 1), k.store(6, 15, 0), k.store(6, 14, 0)), 90, 90, 90, NONE);
    }

    // "STATE: it was done 30 times with worst(), saved()."

    static void promise27ThirtyTimesWithWorstAndSaved() {
        KeptVersions k = alike(1, 4);
        for (int n = 1; n <= 30; n++) {
            int got = n % 3 == 0 ? k.store(1, 999, 0) : n % 3 == 1 ? k.worst(1, 999, 1) : k.saved(1, 999, 99, 1);
            due("time " + n, got, n % 3 == 0 ? 2 : n % 3 == 1 ? 1 : 0);
        }
        due("done", k.count(3), 30);
        refused(k, STATE, () -> k.store(1, 999, 0), () -> k.store(1, 1, 25), () -> k.store(1, 999, 0));
    }

    static void promise27NoStoreIsDoneTooAndRefusedIsNot() {
        KeptVersions k = alike(1, 4);
        k.store(1, 1, 0);
        due("no store", k.count(3), 1);
        k.store(0, 1, 0);
        k.store(1, 0, 0);
        k.store(1, 1, 2);
        due("refused", k.count(3), 1);
    }

    static void promise27OutsideAheadOfState() {
        KeptVersions k = alike(1, 4);
        for (int n = 1; n <= 30; n++) {
            k.store(1, 999, 0);
        }
        refused(k, OUTSIDE, () -> k.store(2, 9, 0), () -> k.store(1, 0, 0), () -> k.store(1, 9, 2));
    }

    // ---- 28: "what = 0 its VERSION, 1 the ASKED that are LOST; NONE: there is no STORE. OUTSIDE, STATE, as store()."

    static void promise28LosesMostAsked() {
        // 1 is whole, 0 and 2 come from it.
        KeptVersions k = growing();
        dueRow("piece, lost", row(k.worst(3, 99, 0), k.worst(3, 99, 1)), 1, 3);
    }

    static void promise28AllThatAreRemadeByItAreLost() {
        // 0 is whole, 1 comes from it, 2 from 1.
        KeptVersions k = growing(9, 2, 1);
        dueRow("piece, lost", row(k.worst(3, 99, 0), k.worst(3, 99, 1)), 0, 12);
    }

    static void promise28ByAskedNotByHowMany() {
        // All are whole.
        KeptVersions k = growing(1, 1, 5);
        dueRow("piece, lost", row(k.worst(3, 9, 0), k.worst(3, 9, 1)), 2, 5);
    }

    static void promise28OfLikeOnesTheLeastVersions() {
        KeptVersions k = growing();
        dueRow("all whole", row(k.worst(3, 9, 0), k.worst(3, 9, 1)), 0, 1);
        // 0 comes from 1, and nothing is asked of 1 and 2: whichever of both pieces is torn, 5 are lost.
        KeptVersions patch = growing(5, 0, 0);
        dueRow("from", sources(patch, 3, 12), 1, NONE, 1);
        dueRow("piece, lost", row(patch.worst(3, 12, 0), patch.worst(3, 12, 1)), 0, 5);
    }

    static void promise28NothingAsked() {
        KeptVersions k = growing(0, 0, 0);
        dueRow("piece, lost", row(k.worst(3, 99, 0), k.worst(3, 99, 1)), 0, 0);
    }

    static void promise28MostThatMayBeAsked() {
        KeptVersions k = alike(6, 4, 4, 4);
        for (int i = 0; i < 6; i++) {
            k.asked(i, 9);
        }
        dueRow("piece, lost", row(k.worst(6, 999, 0), k.worst(6, 999, 1)), 0, 54);
    }

    static void promise28OneVersionAlone() {
        KeptVersions k = growing(4);
        dueRow("piece, lost", row(k.worst(1, 7, 0), k.worst(1, 7, 1)), 0, 4);
    }

    static void promise28NoStoreIsNone() {
        KeptVersions k = growing();
        dueRow("piece, lost", row(k.worst(3, 8, 0), k.worst(3, 8, 1)), NONE, NONE);
    }

    static void promise28Outside() {
        KeptVersions k = alike(7, 4);
        refused(k, OUTSIDE, () -> k.worst(0, 9, 0), () -> k.worst(7, 9, 0), () -> k.worst(LOW, 9, 0), () -> k.worst(HIGH, 9, 0));
        refused(k, OUTSIDE, () -> k.worst(1, 0, 0), () -> k.worst(1, 1000, 0), () -> k.worst(1, LOW, 0), () -> k.worst(1, HIGH, 0));
        refused(k, OUTSIDE, () -> k.worst(1, 9, -1), () -> k.worst(1, 9, 2), () -> k.worst(1, 9, LOW), () -> k.worst(1, 9, HIGH));
        dueRow("the least and the greatest", row(k.worst(6, 1, 0), k.worst(6, 999, 1)), NONE, 6);
    }

    static void promise28NOfVersionsThatAreThere() {
        KeptVersions k = growing();
        refused(k, OUTSIDE, () -> k.worst(4, 9, 0));
        KeptVersions none = new KeptVersions();
        refused(none, OUTSIDE, () -> none.worst(1, 9, 0));
    }

    static void promise28StateBehindThirty() {
        KeptVersions k = alike(1, 4);
        for (int n = 1; n <= 30; n++) {
            due("time " + n, k.worst(1, n % 2 == 0 ? 1 : 999, 1), n % 2 == 0 ? NONE : 1);
            due("done", k.count(3), n);
        }
        refused(k, STATE, () -> k.worst(1, 999, 0), () -> k.worst(1, 1, 1));
        refused(k, OUTSIDE, () -> k.worst(2, 9, 0), () -> k.worst(1, 0, 0), () -> k.worst(1, 9, 2));
    }

    // ---- 29: "SAVED BEST with ROOM r (0 to 99): what = 0 the VERSION whose piece it is, 1 the worst that may be LOST then; NONE."

    static void promise29WithItTheWorstIsLeast() {
        // 1 is whole (8), 0 (3) and 2 (4) come from it.
        KeptVersions k = growing();
        dueRow("piece, lost then", row(k.saved(3, 99, 99, 0), k.saved(3, 99, 99, 1)), 1, 1);
    }

    static void promise29OnlyWhatIsCopiedIsSafe() {
        // 0 is whole, 1 comes from it, 2 from 1: with a copy of 0 the piece of 1 loses two still.
        KeptVersions k = growing(9, 2, 1);
        dueRow("piece, lost then", row(k.saved(3, 99, 99, 0), k.saved(3, 99, 99, 1)), 0, 3);
    }

    static void promise29RoomJustSo() {
        KeptVersions k = growing();
        dueRow("8 for the whole one", row(k.saved(3, 99, 8, 0), k.saved(3, 99, 8, 1)), 1, 1);
        dueRow("7", row(k.saved(3, 99, 7, 0), k.saved(3, 99, 7, 1)), 0, 3);
        dueRow("3 for the least", row(k.saved(3, 99, 3, 0), k.saved(3, 99, 3, 1)), 0, 3);
        dueRow("2", row(k.saved(3, 99, 2, 0), k.saved(3, 99, 2, 1)), NONE, NONE);
    }

    static void promise29OfLikeOnesLeastRoom() {
        // Both are whole, for 4 and for 3, and one is lost either way.
        KeptVersions k = withVersions(row(1, 2, 3), row(4, 5));
        dueRow("piece, lost then", row(k.saved(2, 99, 99, 0), k.saved(2, 99, 99, 1)), 1, 1);
        dueRow("room for none but that", row(k.saved(2, 99, 3, 0), k.saved(2, 99, 2, 0)), 1, NONE);
    }

    static void promise29LeastLossAheadOfLeastRoom() {
        KeptVersions k = withVersions(row(1, 2, 3), row(4, 5));
        k.asked(0, 2);
        dueRow("piece, lost then", row(k.saved(2, 99, 99, 0), k.saved(2, 99, 99, 1)), 0, 1);
    }

    static void promise29OfLikeOnesTheLeast() {
        KeptVersions k = withVersions(row(1, 1), row(2, 2), row(3, 3));
        dueRow("piece, lost then", row(k.saved(3, 99, 99, 0), k.saved(3, 99, 99, 1)), 0, 1);
        k.asked(1, 3);
        dueRow("with 3 for 1", row(k.saved(3, 99, 99, 0), k.saved(3, 99, 99, 1)), 1, 1);
        k.asked(2, 3);
        dueRow("with 3 for 2, too", row(k.saved(3, 99, 99, 0), k.saved(3, 99, 99, 1)), 0, 3);
    }

    static void promise29NothingAsked() {
        KeptVersions k = growing(0, 0, 0);
        // 0 is whole (7), 1 (4) and 2 (4) are not.
        dueRow("piece, lost then", row(k.saved(3, 99, 99, 0), k.saved(3, 99, 99, 1)), 1, 0);
    }

    static void promise29OneVersionAlone() {
        KeptVersions k = growing(4);
        dueRow("piece, lost then", row(k.saved(1, 99, 99, 0), k.saved(1, 99, 99, 1)), 0, 0);
        dueRow("room for it", row(k.saved(1, 99, 7, 0), k.saved(1, 99, 6, 0), k.saved(1, 99, 6, 1)), 0, NONE, NONE);
    }

    static void promise29RFrom0To99() {
        KeptVersions k = alike(2);
        dueRow("0, 1, 99", row(k.saved(2, 99, 0, 0), k.saved(2, 99, 1, 0), k.saved(2, 99, 99, 0)), NONE, 0, 0);
        refused(k, OUTSIDE, () -> k.saved(2, 99, -1, 0), () -> k.saved(2, 99, 100, 0), () -> k.saved(2, 99, LOW, 0), () -> k.saved(2, 99, HIGH, 0));
    }

    static void promise29NoStoreIsNone() {
        KeptVersions k = growing();
        dueRow("piece, lost then", row(k.saved(3, 8, 99, 0), k.saved(3, 8, 99, 1)), NONE, NONE);
    }

    static void promise29Outside() {
        KeptVersions k = alike(7, 4);
        refused(k, OUTSIDE, () -> k.saved(0, 9, 9, 0), () -> k.saved(7, 9, 9, 0), () -> k.saved(LOW, 9, 9, 0), () -> k.saved(HIGH, 9, 9, 0));
        refused(k, OUTSIDE, () -> k.saved(1, 0, 9, 0), () -> k.saved(1, 1000, 9, 0), () -> k.saved(1, LOW, 9, 0), () -> k.saved(1, HIGH, 9, 0));
        refused(k, OUTSIDE, () -> k.saved(1, 9, 9, -1), () -> k.saved(1, 9, 9, 2), () -> k.saved(1, 9, 9, LOW), () -> k.saved(1, 9, 9, HIGH));
        dueRow("the least and the greatest", row(k.saved(6, 1, 99, 0), k.saved(6, 999, 99, 1)), NONE, 1);
    }

    static void promise29NOfVersionsThatAreThere() {
        KeptVersions k = growing();
        refused(k, OUTSIDE, () -> k.saved(4, 9, 9, 0));
        KeptVersions none = new KeptVersions();
        refused(none, OUTSIDE, () -> none.saved(1, 9, 9, 0));
    }

    static void promise29StateBehindThirty() {
        KeptVersions k = alike(1, 4);
        for (int n = 1; n <= 30; n++) {
            due("time " + n, k.saved(1, 999, n % 2 == 0 ? 1 : 99, 0), n % 2 == 0 ? NONE : 0);
            due("done", k.count(3), n);
        }
        refused(k, STATE, () -> k.saved(1, 999, 99, 0), () -> k.saved(1, 1, 0, 1));
        refused(k, OUTSIDE, () -> k.saved(2, 9, 9, 0), () -> k.saved(1, 0, 9, 0), () -> k.saved(1, 9, 100, 0), () -> k.saved(1, 9, 9, 2));
    }
}
