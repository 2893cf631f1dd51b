/**
 * Promises 1 to 9, the desk and versions: a test for each sentence, named after its promise.
 */
public final class DeskAndVersionsTest extends Checks {
    public static void main(String[] args) {
        runAll(DeskAndVersionsTest.class, 1, 9);
    }

    // ---- 1: "No VERSIONS, THE DESK empty."

    static void promise01NoVersions() {
        KeptVersions k = new KeptVersions();
        due("versions", k.count(0), 0);
        refused(k, UNKNOWN, () -> k.about(0, 0), () -> k.text(0, 0), () -> k.take(0), () -> k.keep(0, NONE), () -> k.asked(0, 1));
    }

    static void promise01DeskEmpty() {
        KeptVersions k = new KeptVersions();
        due("lines", k.count(1), 0);
        due("desk(0)", k.desk(0), NONE);
        refused(k, UNKNOWN, () -> k.drop(0));
    }

    static void promise01NoPatchesAndNoStoresDone() {
        KeptVersions k = new KeptVersions();
        due("patches", k.count(2), 0);
        due("stores done", k.count(3), 0);
        refused(k, UNKNOWN, () -> k.of(0, 0), () -> k.fits(0));
    }

    static void promise01Constants() throws ReflectiveOperationException {
        String[] names = {"NONE", "UNKNOWN", "OUTSIDE", "STATE", "FULL"};
        int[] values = {-1, -101, -102, -103, -104};
        for (int i = 0; i < names.length; i++) {
            due(names[i], KeptVersions.class.getField(names[i]).getInt(null), values[i]);
        }
    }

    static void promise01NewObjectsHaveNothingOfOthers() {
        KeptVersions used = withVersions(row(1, 2), row(3));
        used.blank();
        used.store(1, 9, 0);
        KeptVersions k = new KeptVersions();
        for (int what = 0; what <= 3; what++) {
            due("count(" + what + ") of a new one", k.count(what), 0);
        }
        due("the used one's lines", used.count(1), 1);
    }

    static void promise01The512thCallStillAnswers() {
        KeptVersions k = new KeptVersions();
        for (int n = 1; n <= 511; n++) {
            if (n % 2 == 1) {
                due("call " + n, k.line(0, 5), 1);
            } else {
                due("call " + n, k.drop(0), 5);
            }
        }
        due("call 512", k.count(1), 1);
    }

    // ---- 2: "A LINE comes into THE DESK at a place (0 to its LINES): how many there are. OUTSIDE: at, v; FULL."

    static void promise02ComesAtThePlace() {
        KeptVersions k = withDesk(1, 2, 3);
        due("at the front", k.line(0, 10), 4);
        due("within", k.line(2, 20), 5);
        due("at the end", k.line(5, 30), 6);
        dueRow("desk", deskOf(k), 10, 1, 20, 2, 3, 30);
    }

    static void promise02AtZeroOfAnEmptyDesk() {
        KeptVersions k = new KeptVersions();
        refused(k, OUTSIDE, () -> k.line(1, 5));
        due("at 0", k.line(0, 5), 1);
    }

    static void promise02AtBelowZeroIsOutside() {
        KeptVersions k = withDesk(1, 2, 3);
        refused(k, OUTSIDE, () -> k.line(-1, 5), () -> k.line(-2, 5), () -> k.line(LOW, 5));
    }

    static void promise02AtBehindItsLinesIsOutside() {
        KeptVersions k = withDesk(1, 2, 3);
        refused(k, OUTSIDE, () -> k.line(4, 5), () -> k.line(14, 5), () -> k.line(HIGH, 5));
    }

    static void promise02LeastAndGreatestLine() {
        KeptVersions k = new KeptVersions();
        due("0", k.line(0, 0), 1);
        due("99", k.line(1, 99), 2);
        dueRow("desk", deskOf(k), 0, 99);
    }

    static void promise02LineBelowZeroIsOutside() {
        KeptVersions k = withDesk(1);
        refused(k, OUTSIDE, () -> k.line(0, -1), () -> k.line(1, -2), () -> k.line(0, LOW));
    }

    static void promise02LineAbove99IsOutside() {
        KeptVersions k = withDesk(1);
        refused(k, OUTSIDE, () -> k.line(0, 100), () -> k.line(1, HIGH));
    }

    static void promise02FourteenLinesAtMost() {
        KeptVersions k = withDesk(rising(13, 1));
        due("the fourteenth", k.line(13, 14), 14);
        refused(k, FULL, () -> k.line(0, 1), () -> k.line(7, 1), () -> k.line(14, 99));
        dueRow("desk", deskOf(k), rising(14, 1));
    }

    static void promise02RoomAgainBehindADrop() {
        KeptVersions k = withDesk(repeated(14, 3));
        k.drop(13);
        due("line", k.line(0, 4), 14);
        refused(k, FULL, () -> k.line(0, 4));
    }

    static void promise02OutsideAheadOfFull() {
        KeptVersions k = withDesk(repeated(14, 3));
        refused(k, OUTSIDE, () -> k.line(15, 1), () -> k.line(-1, 1), () -> k.line(0, 100), () -> k.line(0, -1));
    }

    // ---- 3: "A LINE of THE DESK goes: what it was. UNKNOWN."

    static void promise03GoesAndTellsWhatItWas() {
        KeptVersions k = withDesk(7, 8, 9, 10);
        due("within", k.drop(1), 8);
        dueRow("desk", deskOf(k), 7, 9, 10);
        due("the last", k.drop(2), 10);
        due("the first", k.drop(0), 7);
        dueRow("desk", deskOf(k), 9);
    }

    static void promise03OfAnEmptyDeskIsUnknown() {
        KeptVersions k = new KeptVersions();
        refused(k, UNKNOWN, () -> k.drop(0), () -> k.drop(-1), () -> k.drop(1));
    }

    static void promise03TheOnlyLine() {
        KeptVersions k = withDesk(99);
        due("drop", k.drop(0), 99);
        due("lines", k.count(1), 0);
        refused(k, UNKNOWN, () -> k.drop(0));
    }

    static void promise03BelowZeroIsUnknown() {
        KeptVersions k = withDesk(7, 8);
        refused(k, UNKNOWN, () -> k.drop(-1), () -> k.drop(LOW));
    }

    static void promise03BehindTheLinesIsUnknown() {
        KeptVersions k = withDesk(7, 8);
        refused(k, UNKNOWN, () -> k.drop(2), () -> k.drop(14), () -> k.drop(HIGH));
    }

    static void promise03OfAFullDesk() {
        KeptVersions k = withDesk(rising(14, 1));
        refused(k, UNKNOWN, () -> k.drop(14));
        due("the last of fourteen", k.drop(13), 14);
        due("the first", k.drop(0), 1);
        dueRow("desk", deskOf(k), rising(12, 2));
    }

    // ---- 4: "THE DESK becomes like a VERSION, or empty (NONE): how many LINES. UNKNOWN."

    static void promise04BecomesLikeAVersion() {
        KeptVersions k = withVersions(row(1, 2, 3), row(), rising(14, 20));
        due("of three", k.take(0), 3);
        dueRow("desk", deskOf(k), 1, 2, 3);
        due("of fourteen", k.take(2), 14);
        dueRow("desk", deskOf(k), rising(14, 20));
        due("of none", k.take(1), 0);
        dueRow("desk", deskOf(k));
    }

    static void promise04NoneMakesItEmpty() {
        KeptVersions k = withDesk(1, 2);
        due("with no versions", k.take(NONE), 0);
        due("desk(0)", k.desk(0), NONE);
        due("empty already", k.take(NONE), 0);
    }

    static void promise04UnknownVersion() {
        KeptVersions k = withVersions(row(1), row(2));
        refused(k, UNKNOWN, () -> k.take(2), () -> k.take(-2), () -> k.take(LOW), () -> k.take(HIGH));
        dueRow("desk", deskOf(k), 2);
    }

    static void promise04TheVersionIsNotTheDesk() {
        KeptVersions k = withVersions(row(1, 2));
        k.take(0);
        k.drop(0);
        k.line(0, 9);
        dueRow("version", linesOf(k, 0), 1, 2);
    }

    // ---- 5: "The i-th LINE of THE DESK; NONE."

    static void promise05FirstAndLastLine() {
        KeptVersions k = withDesk(rising(14, 50));
        due("0", k.desk(0), 50);
        due("13", k.desk(13), 63);
        due("14", k.desk(14), NONE);
    }

    static void promise05NoneBehindTheLines() {
        KeptVersions k = withDesk(4, 6);
        due("2", k.desk(2), NONE);
        due("far", k.desk(HIGH), NONE);
        k.drop(1);
        due("behind a drop", k.desk(1), NONE);
    }

    static void promise05NoneBelowZero() {
        KeptVersions k = withDesk(4, 6);
        due("-1", k.desk(-1), NONE);
        due("far", k.desk(LOW), NONE);
    }

    static void promise05NoneOfAnEmptyDesk() {
        due("0", new KeptVersions().desk(0), NONE);
    }

    // ---- 6: "THE DESK as a VERSION with PARENTS (NONE: none; the second NONE, if the first is): its number."
    // "UNKNOWN: p, q; OUTSIDE: they are the same VERSION, or there is only a second one; FULL."

    static void promise06NumbersFromZeroOn() {
        KeptVersions k = new KeptVersions();
        for (int n = 0; n < 10; n++) {
            due("version", k.keep(NONE, NONE), n);
        }
    }

    static void promise06Parents() {
        KeptVersions k = withVersions(row(1));
        due("one parent", k.keep(0, NONE), 1);
        due("two", k.keep(0, 1), 2);
        due("the later one first", k.keep(2, 0), 3);
        dueRow("first parents", row(k.about(0, 1), k.about(1, 1), k.about(2, 1), k.about(3, 1)), NONE, 0, 0, 2);
        dueRow("second parents", row(k.about(0, 2), k.about(1, 2), k.about(2, 2), k.about(3, 2)), NONE, NONE, 1, 0);
    }

    static void promise06TheDeskStays() {
        KeptVersions k = withDesk(5, 6);
        k.keep(NONE, NONE);
        dueRow("desk", deskOf(k), 5, 6);
    }

    static void promise06VersionsStayWhenTheDeskChanges() {
        KeptVersions k = withDesk(5, 6);
        k.keep(NONE, NONE);
        k.line(0, 9);
        k.drop(2);
        dueRow("version", linesOf(k, 0), 5, 6);
    }

    static void promise06AnEmptyDeskAndAFullOne() {
        KeptVersions k = withVersions(row(), rising(14, 1));
        due("lines", k.about(0, 0), 0);
        dueRow("full", linesOf(k, 1), rising(14, 1));
    }

    static void promise06UnknownFirst() {
        KeptVersions k = withVersions(row(1));
        refused(k, UNKNOWN, () -> k.keep(1, NONE), () -> k.keep(-2, NONE), () -> k.keep(LOW, NONE), () -> k.keep(HIGH, 0));
    }

    static void promise06UnknownSecond() {
        KeptVersions k = withVersions(row(1));
        refused(k, UNKNOWN, () -> k.keep(0, 1), () -> k.keep(0, -2), () -> k.keep(0, LOW), () -> k.keep(0, HIGH));
    }

    static void promise06TheSameTwiceIsOutside() {
        KeptVersions k = withVersions(row(1), row(2));
        refused(k, OUTSIDE, () -> k.keep(0, 0), () -> k.keep(1, 1));
    }

    static void promise06OnlyASecondIsOutside() {
        KeptVersions k = withVersions(row(1), row(2));
        refused(k, OUTSIDE, () -> k.keep(NONE, 0), () -> k.keep(NONE, 1));
    }

    static void promise06UnknownAheadOfOutside() {
        KeptVersions k = withVersions(row(1));
        refused(k, UNKNOWN, () -> k.keep(1, 1), () -> k.keep(NONE, 1), () -> k.keep(-2, -2));
    }

    static void promise06TenAtMost() {
        KeptVersions k = new KeptVersions();
        for (int n = 0; n < 9; n++) {
            k.keep(NONE, NONE);
        }
        due("the tenth", k.keep(8, 0), 9);
        refused(k, FULL, () -> k.keep(NONE, NONE), () -> k.keep(9, NONE), () -> k.keep(9, 8));
        due("versions", k.count(0), 10);
    }

    static void promise06UnknownAndOutsideAheadOfFull() {
        KeptVersions k = new KeptVersions();
        for (int n = 0; n < 10; n++) {
            k.keep(NONE, NONE);
        }
        refused(k, UNKNOWN, () -> k.keep(10, NONE), () -> k.keep(0, 10));
        refused(k, OUTSIDE, () -> k.keep(3, 3), () -> k.keep(NONE, 3));
    }

    // ---- 7: "The i-th LINE of a VERSION; NONE. UNKNOWN: version."

    static void promise07FirstAndLastLine() {
        KeptVersions k = withVersions(rising(14, 60), row(8));
        due("first", k.text(0, 0), 60);
        due("last", k.text(0, 13), 73);
        due("behind fourteen", k.text(0, 14), NONE);
        due("of another one", k.text(1, 0), 8);
    }

    static void promise07NoneBesideTheLines() {
        KeptVersions k = withVersions(row(3, 1));
        due("behind", k.text(0, 2), NONE);
        due("ahead", k.text(0, -1), NONE);
        due("far", k.text(0, HIGH), NONE);
        due("far below", k.text(0, LOW), NONE);
    }

    static void promise07NoneOfAnEmptyVersion() {
        due("0", withVersions(row()).text(0, 0), NONE);
    }

    static void promise07UnknownVersion() {
        KeptVersions k = withVersions(row(3), row(4));
        refused(k, UNKNOWN, () -> k.text(2, 0), () -> k.text(NONE, 0), () -> k.text(LOW, 0), () -> k.text(HIGH, 0), () -> k.text(2, -1));
    }

    // ---- 8: "what = 0 LINES, 1, 2 its PARENTS (NONE), 3 ASKED, 4 ROOM of it whole. UNKNOWN; OUTSIDE."

    static void promise08Lines() {
        KeptVersions k = withVersions(row(), row(3, 1), repeated(14, 2));
        dueRow("lines", row(k.about(0, 0), k.about(1, 0), k.about(2, 0)), 0, 2, 14);
    }

    static void promise08ParentsOrNone() {
        KeptVersions k = withVersions(row(), row());
        k.keep(1, NONE);
        k.keep(2, 1);
        dueRow("without", row(k.about(1, 1), k.about(1, 2)), NONE, NONE);
        dueRow("with one", row(k.about(2, 1), k.about(2, 2)), 1, NONE);
        dueRow("with two", row(k.about(3, 1), k.about(3, 2)), 2, 1);
    }

    static void promise08AskedIsOneAtFirst() {
        KeptVersions k = withVersions(row(), row(3));
        dueRow("asked", row(k.about(0, 3), k.about(1, 3)), 1, 1);
    }

    static void promise08RoomIsItsLinesAndOne() {
        KeptVersions k = withVersions(row(), row(3), repeated(14, 2));
        dueRow("room", row(k.about(0, 4), k.about(1, 4), k.about(2, 4)), 1, 2, 15);
    }

    static void promise08UnknownVersion() {
        KeptVersions k = withVersions(row(3));
        refused(k, UNKNOWN, () -> k.about(1, 0), () -> k.about(NONE, 0), () -> k.about(LOW, 4), () -> k.about(HIGH, 0));
    }

    static void promise08WhatOutside() {
        KeptVersions k = withVersions(row(3));
        refused(k, OUTSIDE, () -> k.about(0, -1), () -> k.about(0, 5), () -> k.about(0, LOW), () -> k.about(0, HIGH));
    }

    static void promise08UnknownAheadOfOutside() {
        KeptVersions k = withVersions(row(3));
        refused(k, UNKNOWN, () -> k.about(1, 5), () -> k.about(NONE, -1));
    }

    // ---- 9: "ASKED becomes v: what it was. UNKNOWN; OUTSIDE." with "ASKED (0 to 9; 1 at first)"

    static void promise09TellsWhatItWas() {
        KeptVersions k = withVersions(row(3), row(3));
        due("at first", k.asked(0, 4), 1);
        due("then", k.asked(0, 4), 4);
        due("told", k.about(0, 3), 4);
        due("of the other one", k.about(1, 3), 1);
    }

    static void promise09LeastAndGreatest() {
        KeptVersions k = withVersions(row(3));
        due("9", k.asked(0, 9), 1);
        due("0", k.asked(0, 0), 9);
        due("told", k.about(0, 3), 0);
    }

    static void promise09BelowZeroIsOutside() {
        KeptVersions k = withVersions(row(3));
        refused(k, OUTSIDE, () -> k.asked(0, -1), () -> k.asked(0, LOW));
    }

    static void promise09AboveNineIsOutside() {
        KeptVersions k = withVersions(row(3));
        refused(k, OUTSIDE, () -> k.asked(0, 10), () -> k.asked(0, HIGH));
    }

    static void promise09UnknownVersion() {
        KeptVersions k = withVersions(row(3));
        refused(k, UNKNOWN, () -> k.asked(1, 2), () -> k.asked(NONE, 2), () -> k.asked(LOW, 2), () -> k.asked(HIGH, 2));
    }

    static void promise09UnknownAheadOfOutside() {
        KeptVersions k = withVersions(row(3));
        refused(k, UNKNOWN, () -> k.asked(1, 10), () -> k.asked(NONE, -1));
    }
}
