/** The boundary cases that promises 27 to 30 name: sheet, lay, scan, count. */
public final class SheetEdgeTest {
    private static final int BAD = -1, FULL = -3, NULL = -11, INDEX = -12, CAST = -13, SIZE = -14;
    private static final int PLACE_BAD = -21, PLACE_FULL = -23;
    private static final String[] NO_SHEET = {"-1", "4", "NONE", "MIN", "MAX"};

    public static void main(String[] args) {
        sheet();
        sheetNew();
        lay();
        layBits();
        scanBad();
        scanFaults();
        scanIndex();
        scanPlaces();
        scanFirstMet();
        count();
        countUnlike();
        Due.end();
    }

    private static void sheet() {
        Edge.of(27, "BAD: SHEETS 0 to 3", Setting.BUSY).refusedFor("sheet(*, 0, 1)", BAD, NO_SHEET)
            .due("sheet(3, 0, 2)", 1).due("sheet(0, 0, 2)", 1);
        Edge.of(27, "BAD: lanes 0 to 2", Setting.BUSY).refusedFor("sheet(0, *, 1)", BAD, "-1", "3", "NONE", "MIN", "MAX");
        Edge.of(27, "BAD: also n above 60", Setting.BUSY).refusedFor("sheet(0, 2, *)", BAD, "61", "62", "MAX")
            .refused("sheet(1, 0, 61)", BAD).refused("sheet(2, 1, 61)", BAD);
        Edge.of(27, "-10 - 4: n below 0", Setting.BUSY).refusedFor("sheet(0, 2, *)", SIZE, "-1", "-60", "NONE", "MIN")
            .refusedFor("sheet(3, *, -1)", SIZE, "0", "1", "2");
        Edge.of(27, "BAD comes ahead of -10 - 4", Setting.BUSY).refused("sheet(4, 0, -1)", BAD).refused("sheet(-1, 0, -1)", BAD)
            .refused("sheet(0, 3, -1)", BAD).refused("sheet(0, -1, -1)", BAD);
        Edge.of(27, "60 CELLS").due("sheet(0, 0, 60)", 1).due("lay(0, 59, 1)", 1).refused("lay(0, 60, 1)", INDEX)
            .due("scan(0, 0, 58, 1)", 1);
        Edge.of(27, "0 CELLS").due("sheet(3, 1, 0)", 1).refused("lay(3, 0, 1)", INDEX).due("scan(3, 1, 0, 0)", 0)
            .refused("scan(3, 1, 0, 1)", INDEX);
    }

    private static void sheetNew() {
        Edge.of(27, "CELLS 0, also of a SHEET that had others", Setting.BUSY).due("sheet(0, 2, 6)", 1).given("cut(0)")
            .due("scan(0, 2, 0, 3)", 3).due("names()", 1).due("place(0, 0)", 4).due("first(3)", 0)
            .due("ran(0, 1, 0)", 0).due("ran(0, 2, 0)", 0).due("ran(0, 3, 0)", 0);
        Edge.of(27, "a new row: of another lane, of another length", Setting.BUSY).due("sheet(0, 0, 2)", 1)
            .refused("scan(0, 2, 0, 1)", CAST).refused("lay(0, 2, 1)", INDEX).due("scan(0, 0, 0, 1)", 5)
            .due("sheet(0, 1, 4)", 1).refused("scan(0, 0, 0, 1)", CAST).due("lay(0, 3, 1)", 1).due("scan(0, 1, 0, 2)", 7);
        Edge.of(27, "the other SHEETS stay as they are", Setting.BUSY).given("sheet(1, 2, 60)", "sheet(3, 0, 4)", "cut(0)")
            .due("scan(0, 2, 0, 3)", 3).due("ran(0, 1, 0)", 2).due("scan(2, 1, 0, 1)", 4).due("ran(0, 4, 0)", 1);
    }

    private static void lay() {
        Edge.of(28, "BAD: SHEETS 0 to 3", Setting.BUSY).refusedFor("lay(*, 0, 1)", BAD, NO_SHEET);
        Edge.of(28, "NULL: a SHEET of nothing", Setting.BUSY).refused("lay(3, 0, 1)", NULL);
        Edge.of(28, "NULL comes ahead of INDEX", Setting.BUSY).refusedFor("lay(3, *, 1)", NULL, "-1", "60", "MIN", "MAX");
        Edge.of(28, "INDEX: there is no such CELL", Setting.BUSY)
            .refusedFor("lay(0, *, 1)", INDEX, "-1", "6", "59", "60", "NONE", "MIN", "MAX").due("lay(0, 5, 1)", 1);
        Edge.of(28, "INDEX: no CELLS", Setting.BUSY).refusedFor("lay(1, *, 1)", INDEX, "-1", "0", "1");
        Edge.of(28, "the first and the last CELL", Setting.BUSY).given("cut(0)").due("lay(2, 0, 2)", 1)
            .due("lay(2, 2, 1)", 1).refused("lay(2, 3, 1)", INDEX).due("scan(2, 1, 0, 1)", 1).due("ran(0, 1, 0)", 2)
            .due("first(0)", 0);
    }

    /** A name is held against one that place() brought; 256 more is the same in bytes alone. */
    private static void layBits() {
        int[][] laid = {
            {127, 127, 127, 127}, {128, -128, 128, 128}, {255, -1, 255, 255}, {256, 0, 256, 256}, {-129, 127, -129, -129},
            {32767, -1, 32767, 32767}, {32768, 0, -32768, 32768}, {65535, -1, -1, 65535}, {65536, 0, 0, 65536},
            {-32769, -1, 32767, -32769}, {Integer.MIN_VALUE, 0, 0, Integer.MIN_VALUE},
            {Integer.MAX_VALUE, -1, -1, Integer.MAX_VALUE}, {-1, -1, -1, -1}
        };
        for (int[] row : laid) {
            for (int lane = 0; lane < 3; lane++) {
                Edge.of(28, "its lowest bits, lane " + lane).given("sheet(0, " + lane + ", 2)", "lay(0, 1, " + row[0] + ")")
                    .given("place(0, " + row[lane + 1] + ")").due("scan(0, " + lane + ", 0, 1)", 2).due("first(1)", 0);
            }
        }
        Edge.of(28, "a LETTER of the lowest bits", Setting.BUSY).given("sheet(3, 0, 2)", "lay(3, 0, 258)")
            .due("scan(3, 0, 0, 1)", 5).due("ran(0, 5, 0)", 2).given("sheet(3, 1, 2)", "lay(3, 0, 65537)")
            .due("scan(3, 1, 0, 1)", 6).due("ran(0, 6, 0)", 1).given("sheet(3, 2, 2)", "lay(3, 0, 65537)")
            .refused("scan(3, 2, 0, 1)", PLACE_BAD);
    }

    private static void scanBad() {
        Edge.of(29, "BAD: SHEETS 0 to 3", Setting.BUSY).refusedFor("scan(*, 2, 0, 1)", BAD, NO_SHEET);
        Edge.of(29, "BAD: lanes 0 to 2", Setting.BUSY).refusedFor("scan(0, *, 0, 1)", BAD, "-1", "3", "NONE", "MIN", "MAX");
        Edge.of(29, "BAD: n 0 to 30", Setting.BUSY).refusedFor("scan(0, 2, 0, *)", BAD, "-1", "31", "NONE", "MIN", "MAX");
        Edge.of(29, "30 PLACES").given("sheet(0, 0, 60)").refused("scan(0, 0, 0, 31)", BAD).due("scan(0, 0, 0, 30)", 30)
            .due("names()", 1);
        Edge.of(29, "no PLACES", Setting.BUSY).due("scan(0, 2, 0, 0)", 4).due("scan(1, 0, 0, 0)", 4).due("count(0)", 4);
        Edge.of(29, "BAD comes ahead of the FAULTS", Setting.BUSY).refused("scan(3, 3, 0, 1)", BAD)
            .refused("scan(3, 0, 0, 31)", BAD).refused("scan(0, 0, 0, -1)", BAD).refused("scan(0, 2, -1, 31)", BAD);
    }

    private static void scanFaults() {
        Edge.of(29, "NULL: a SHEET of nothing", Setting.BUSY).refusedFor("scan(3, *, 0, 1)", NULL, "0", "1", "2")
            .refused("scan(3, 2, 0, 0)", NULL).refused("scan(3, 2, -1, 1)", NULL);
        Edge.of(29, "CAST: another lane", Setting.BUSY).refusedFor("scan(0, *, 0, 1)", CAST, "0", "1")
            .refusedFor("scan(1, *, 0, 1)", CAST, "1", "2").refusedFor("scan(2, *, 0, 1)", CAST, "0", "2");
        Edge.of(29, "CAST: also where no PLACES are read", Setting.BUSY).refused("scan(0, 1, 0, 0)", CAST)
            .refused("scan(1, 2, 0, 0)", CAST);
        Edge.of(29, "CAST comes ahead of INDEX and what place() refuses", Setting.BUSY).refused("scan(0, 1, -1, 1)", CAST)
            .refused("scan(0, 1, 1, 1)", CAST).refused("scan(1, 1, 0, 1)", CAST);
    }

    private static void scanIndex() {
        Edge.of(29, "INDEX: CELL f is none", Setting.BUSY)
            .refusedFor("scan(0, 2, *, 1)", INDEX, "-1", "-2", "6", "7", "60", "NONE", "MIN", "MAX");
        Edge.of(29, "INDEX: the CELL of a NAME is none", Setting.BUSY).refused("scan(0, 2, 5, 1)", INDEX)
            .given("lay(2, 2, 1)").refused("scan(2, 1, 2, 1)", INDEX).refused("scan(2, 1, 0, 2)", INDEX);
        Edge.of(29, "INDEX: past the last CELL", Setting.BUSY).due("scan(0, 2, 4, 1)", 5).refused("scan(0, 2, 4, 2)", INDEX)
            .refused("scan(0, 2, 0, 4)", INDEX).refused("scan(0, 2, 0, 30)", INDEX).due("scan(0, 2, 0, 3)", 8);
        Edge.of(29, "INDEX: a count of CELLS that wraps round", Setting.BUSY).refused("scan(0, 2, MAX, 2)", INDEX)
            .refused("scan(0, 2, MIN, 30)", INDEX).refused("scan(0, 2, -2, 3)", INDEX).refused("scan(0, 2, 2147483646, 30)", INDEX);
        Edge.of(29, "no PLACES are read from anywhere", Setting.BUSY).due("scan(0, 2, -1, 0)", 4).due("scan(0, 2, 6, 0)", 4)
            .due("scan(0, 2, MAX, 0)", 4).due("scan(1, 0, MIN, 0)", 4);
        Edge.of(29, "INDEX: a SHEET of no CELLS", Setting.BUSY).refusedFor("scan(1, 0, *, 1)", INDEX, "-1", "0", "1");
    }

    private static void scanPlaces() {
        Edge.of(29, "behind THE ROW: LETTER, NAME from CELL f on", Setting.BUSY).due("scan(0, 2, 0, 3)", 7)
            .due("ran(0, 5, 0)", 2).due("ran(0, 6, 0)", 1).due("ran(0, 7, 0)", 0).due("first(4)", 0).due("first(5)", 1)
            .due("first(6)", 6).due("scan(0, 2, 2, 1)", 8).due("ran(0, 8, 0)", 1).due("first(7)", 1);
        Edge.of(29, "-20 and BAD: a LETTER above 2 or below 0", Setting.BUSY).refused("scan(0, 2, 1, 1)", PLACE_BAD)
            .refused("scan(0, 2, 3, 1)", PLACE_BAD).given("lay(0, 4, 3)").refused("scan(0, 2, 0, 3)", PLACE_BAD)
            .due("scan(0, 2, 0, 2)", 6).given("lay(0, 4, -1)").refused("scan(0, 2, 4, 1)", PLACE_BAD);
        Edge.of(29, "-20 and FULL: a ROW has 40 PLACES", Setting.reader(), Setting.places(38))
            .given("sheet(2, 1, 60)").refused("scan(2, 1, 0, 3)", PLACE_FULL).refused("scan(2, 1, 0, 30)", PLACE_FULL)
            .due("scan(2, 1, 0, 2)", 40).refused("scan(2, 1, 0, 1)", PLACE_FULL).due("scan(2, 1, 0, 0)", 40);
        Edge.of(29, "a SHEET is not changed by it", Setting.BUSY).due("scan(0, 2, 0, 3)", 7).due("cut(0)", 7)
            .due("scan(0, 2, 0, 3)", 3).due("ran(0, 1, 0)", 2).due("names()", 3);
    }

    private static void scanFirstMet() {
        Edge.of(29, "the first met: INDEX at a PLACE ahead of what place() refuses there", Setting.BUSY)
            .refused("scan(0, 2, 5, 1)", INDEX).given("lay(2, 2, 9)").refused("scan(2, 1, 2, 1)", INDEX);
        Edge.of(29, "the first met: a LETTER at a PLACE ahead of INDEX at a later one", Setting.BUSY).given("lay(0, 2, 3)")
            .refused("scan(0, 2, 0, 4)", PLACE_BAD).refused("scan(0, 2, 0, 30)", PLACE_BAD)
            .refused("scan(0, 2, 4, 2)", INDEX);
        Edge.of(29, "the first met: FULL, LETTER and INDEX PLACE by PLACE", Setting.reader(), Setting.places(39))
            .given("sheet(0, 0, 5)", "lay(0, 2, 7)").refused("scan(0, 0, 0, 2)", PLACE_BAD)
            .refused("scan(0, 0, 0, 3)", PLACE_BAD).given("lay(0, 2, 1)").refused("scan(0, 0, 0, 2)", PLACE_FULL)
            .refused("scan(0, 0, 0, 3)", PLACE_FULL).refused("scan(0, 0, 2, 2)", INDEX);
        Edge.of(29, "then none came", Setting.BUSY).given("lay(0, 4, 9)").refused("scan(0, 2, 0, 3)", PLACE_BAD)
            .due("count(0)", 4).due("place(2, 7)", 5).due("first(4)", 0).due("first(3)", 3);
    }

    private static void count() {
        Edge.of(30, "BAD: what is 0 to 4", Setting.BUSY).refusedFor("count(*)", BAD, "-1", "5", "NONE", "MIN", "MAX");
        Edge.of(30, "none of each").due("count(0)", 0).due("count(1)", 0).due("count(2)", 0).due("count(3)", 0)
            .due("count(4)", 0);
        Edge.of(30, "some of each", Setting.BUSY).due("count(0)", 4).due("count(1)", 5).due("count(2)", 3)
            .due("count(3)", 2).due("count(4)", 5);
        Edge.of(30, "40 PLACES", Setting.ROW).due("count(0)", 40).refused("place(0, 0)", FULL).due("count(0)", 40);
        Edge.of(30, "6 MACHINES", Setting.MACHINES).due("count(1)", 6).due("drop()", 5).due("count(1)", 5);
        Edge.of(30, "4 WATCHES, none and all of them DONE for").given("machine(2, 0)", "good(0, 0, true)")
            .given("step(0, 0, 2, 2, 1, NONE)", "watch(0)", "watch(0)", "watch(0)", "watch(0)").due("count(2)", 4)
            .due("count(3)", 0).given("see(3, 2, 0)").due("count(3)", 1).given("see(0, 2, 0)", "see(1, 2, 0)", "see(2, 2, 0)")
            .due("count(3)", 4).given("see(2, 2, 0)").due("count(3)", 4);
    }

    private static void countUnlike() {
        Edge.of(30, "unlike MACHINES: no two SAME").given("machine(1, 0)").due("count(4)", 1).given("machine(6, 2)")
            .due("count(4)", 1).given("turned(0)").due("count(4)", 2).given("turned(1)").due("count(4)", 2)
            .given("machine(2, 0)").due("count(4)", 2).given("drop()")
            .given("step(1, 0, 0, 2, 1, 0)").due("count(4)", 2).given("good(1, 1, true)").due("count(4)", 3)
            .given("good(1, 1, false)").due("count(4)", 2).given("drop()").due("count(4)", 2).given("drop()").due("count(4)", 1)
            .given("drop()", "drop()").due("count(4)", 0);
        Edge six = Edge.of(30, "6 unlike MACHINES, then 6 that are SAME");
        for (int m = 0; m < 6; m++) {
            six.given("machine(6, 0)", "good(" + m + ", 5, true)");
            for (int s = 5 - m; s < 5; s++) {
                six.given("step(" + m + ", " + s + ", 0, 2, " + (s + 1) + ", NONE)");
            }
            six.given("step(" + m + ", 0, 0, 2, " + (m == 0 ? 0 : 6 - m) + ", NONE)");
        }
        six.due("count(4)", 6);
        for (int m = 0; m < 6; m++) {
            six.given("good(" + m + ", 0, false)", "good(" + m + ", 5, false)");
        }
        six.due("count(4)", 1).due("count(1)", 6);
    }
}
