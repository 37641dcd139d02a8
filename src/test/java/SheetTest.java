/** Promises 27 to 30: sheet, lay, scan, count. */
public final class SheetTest {
    private static final int BAD = NameRows.BAD, NONE = NameRows.NONE, NULL = -11, INDEX = -12, CAST = -13, SIZE = -14;

    public static void main(String[] args) {
        sheets();
        lays();
        lowestBits();
        scans();
        scanOrder();
        fullRow();
        counts();
        Due.end();
    }

    private static void sheets() {
        NameRows x = new NameRows();
        int[][] bad = {{-1, 0, 1}, {4, 0, 1}, {0, -1, 1}, {0, 3, 1}, {0, 0, 61}, {0, 3, -1}, {4, 0, -1},
            {0, 0, Integer.MAX_VALUE}};
        for (int[] b : bad) {
            Due.due("sheet" + java.util.Arrays.toString(b), x.sheet(b[0], b[1], b[2]), BAD);
        }
        Due.due("sheet(0, 0, -1)", x.sheet(0, 0, -1), SIZE);
        Due.due("sheet(0, 2, MIN)", x.sheet(0, 2, Integer.MIN_VALUE), SIZE);
        Due.due("it is nothing as before", x.lay(0, 0, 1), NULL);
        Due.due("sheet(3, 2, 60)", x.sheet(3, 2, 60), 1);
        Due.due("lay(3, 59, 1)", x.lay(3, 59, 1), 1);
        Due.due("lay(3, 58, 2)", x.lay(3, 58, 2), 1);
        Due.due("a size below 0", x.sheet(3, 0, -1), SIZE);
        Due.due("a size above 60", x.sheet(3, 0, 61), BAD);
        Due.due("it is as before", x.scan(3, 2, 58, 1), 1);
        x.machine(2, 0);
        x.good(0, 1, true);
        x.step(0, 0, 2, 2, 1, NONE);
        Due.due("letter 2 came", x.takes(0, 1), 1);
        Due.due("a new row", x.sheet(3, 2, 60), 1);
        x.cut(0);
        Due.due("its cells are 0", x.scan(3, 2, 58, 1), 1);
        Due.due("letter 0 came", x.takes(0, 1), 0);
        Due.due("a row of no cells", x.sheet(3, 0, 0), 1);
        Due.due("it has none", x.lay(3, 0, 1), INDEX);
    }

    private static void lays() {
        NameRows x = new NameRows();
        Due.due("lay(-1, 0, 0)", x.lay(-1, 0, 0), BAD);
        Due.due("lay(4, 0, 0)", x.lay(4, 0, 0), BAD);
        Due.due("lay(0, -1, 0) of nothing", x.lay(0, -1, 0), NULL);
        x.sheet(0, 1, 3);
        Due.due("lay(0, -1, 0)", x.lay(0, -1, 0), INDEX);
        Due.due("lay(0, 3, 0)", x.lay(0, 3, 0), INDEX);
        Due.due("lay(0, MAX, 0)", x.lay(0, Integer.MAX_VALUE, 0), INDEX);
        Due.due("lay(0, MIN, 0)", x.lay(0, Integer.MIN_VALUE, 0), INDEX);
        Due.due("lay(0, 2, 0)", x.lay(0, 2, 0), 1);
        Due.due("lay(1, 0, 0)", x.lay(1, 0, 0), NULL);
    }

    /** The name that is read is the one that Java's byte, short or int of the value is. */
    private static void lowestBits() {
        int[] laid = {0x12345680, 0x1234807F, -1, 255, 65535, 128, 32768, 127, Integer.MIN_VALUE, Integer.MAX_VALUE};
        for (int v : laid) {
            int[] read = {(byte) v, (short) v, v};
            for (int lane = 0; lane < 3; lane++) {
                NameRows x = new NameRows();
                x.sheet(lane, lane, 2);
                x.lay(lane, 1, v);
                x.place(0, read[lane]);
                Due.due("scan of lane " + lane, x.scan(lane, lane, 0, 1), 2);
                Due.due("lowest bits of " + v + " in lane " + lane, x.first(1), 0);
                x.lay(lane, 0, 0x10000 + 0x102);
                Due.due("letter's lowest bits in lane " + lane, x.scan(lane, lane, 0, 1), lane == 0 ? 3 : -21);
            }
        }
    }

    private static void scans() {
        NameRows x = new NameRows();
        x.sheet(0, 0, 6);
        int[] cells = {1, 50, 2, 51, 0, 50};
        for (int i = 0; i < cells.length; i++) {
            x.lay(0, i, cells[i]);
        }
        Due.due("scan(0, 0, 0, 3)", x.scan(0, 0, 0, 3), 3);
        Due.due("first(2)", x.first(2), 0);
        Due.due("names()", x.names(), 2);
        Due.due("scan(0, 0, 4, 1)", x.scan(0, 0, 4, 1), 4);
        Due.due("first(3)", x.first(3), 0);
        Due.due("scan(0, 0, 2, 0)", x.scan(0, 0, 2, 0), 4);
        x.machine(4, 0);
        x.step(0, 0, 1, 2, 1, NONE);
        x.step(0, 1, 2, 2, 2, NONE);
        x.step(0, 2, 0, 2, 3, NONE);
        Due.due("the letters that came", x.ran(0, 3, 0), 3);
    }

    /** The fault that is met first is the one that is told, and then no place came. */
    private static void scanOrder() {
        NameRows x = new NameRows();
        int[][] bad = {{-1, 0, 0, 0}, {4, 0, 0, 0}, {0, -1, 0, 0}, {0, 3, 0, 0}, {0, 0, 0, -1}, {0, 0, 0, 31}};
        for (int[] b : bad) {
            Due.due("scan" + java.util.Arrays.toString(b), x.scan(b[0], b[1], b[2], b[3]), BAD);
        }
        Due.due("scan of nothing", x.scan(0, 1, -1, 1), NULL);
        x.sheet(0, 2, 5);
        Due.due("scan as of another lane", x.scan(0, 1, -1, 1), CAST);
        Due.due("scan as of another lane, no places", x.scan(0, 0, 0, 0), CAST);
        Due.due("scan(0, 2, -1, 1)", x.scan(0, 2, -1, 1), INDEX);
        Due.due("scan(0, 2, 5, 1)", x.scan(0, 2, 5, 1), INDEX);
        Due.due("scan(0, 2, MAX, 2)", x.scan(0, 2, Integer.MAX_VALUE, 2), INDEX);
        Due.due("scan(0, 2, MIN, 30)", x.scan(0, 2, Integer.MIN_VALUE, 30), INDEX);
        Due.due("no places from anywhere", x.scan(0, 2, Integer.MAX_VALUE, 0), 0);
        Due.due("no places from anywhere", x.scan(0, 2, -7, 0), 0);
        Due.due("the last name is missing", x.scan(0, 2, 0, 3), INDEX);
        Due.due("none came", x.count(0), 0);
        x.lay(0, 4, 3);
        Due.due("a bad letter, its name is missing", x.scan(0, 2, 4, 1), INDEX);
        x.lay(0, 2, 3);
        Due.due("a bad letter before a missing name", x.scan(0, 2, 0, 3), -21);
        x.lay(0, 2, -1);
        Due.due("a letter below 0", x.scan(0, 2, 0, 2), -21);
        Due.due("none came", x.count(0), 0);
        Due.due("the place before it", x.scan(0, 2, 0, 1), 1);
    }

    private static void fullRow() {
        NameRows x = new NameRows();
        x.sheet(2, 1, 60);
        Due.due("30 places", x.scan(2, 1, 0, 30), 30);
        Due.due("11 places more", x.scan(2, 1, 0, 11), -23);
        Due.due("none came", x.count(0), 30);
        x.lay(2, 20, 9);
        Due.due("a bad letter at a full row", x.scan(2, 1, 0, 11), -21);
        x.lay(2, 18, 9);
        Due.due("a bad letter before", x.scan(2, 1, 0, 11), -21);
        x.lay(2, 18, 0);
        Due.due("10 places more", x.scan(2, 1, 0, 10), 40);
        Due.due("no places more", x.scan(2, 1, 0, 0), 40);
        Due.due("1 place more", x.scan(2, 1, 0, 1), -23);
        Due.due("1 place more, its cell is missing", x.scan(2, 1, 60, 1), INDEX);
    }

    private static void counts() {
        NameRows x = new NameRows();
        Due.due("count(-1)", x.count(-1), BAD);
        Due.due("count(5)", x.count(5), BAD);
        x.place(0, 0);
        x.machine(1, 0);
        Due.due("count(4)", x.count(4), 1);
        x.turned(0);
        Due.due("count(4) of one more", x.count(4), 2);
        x.drop();
        for (int m = 1; m < 4; m++) {
            x.machine(m + 1, m % 3);
        }
        Due.due("count(0)", x.count(0), 1);
        Due.due("count(1)", x.count(1), 4);
        Due.due("count(4): all take nothing", x.count(4), 1);
        x.good(1, 0, true);
        Due.due("count(4)", x.count(4), 2);
        x.turned(0);
        Due.due("count(4): both take all rows", x.count(4), 2);
        x.step(1, 0, 2, 0, 1, NONE);
        Due.due("count(4): a case that never comes", x.count(4), 2);
        x.step(1, 0, 2, 2, 1, NONE);
        Due.due("count(4)", x.count(4), 3);
        x.watch(1);
        x.watch(0);
        x.watch(3);
        Due.due("count(2)", x.count(2), 3);
        Due.due("count(3)", x.count(3), 2);
        x.see(0, 2, 0);
        Due.due("count(3)", x.count(3), 3);
        x.drop();
        Due.due("count(1)", x.count(1), 4);
        Due.due("count(4)", x.count(4), 2);
        x.cut(0);
        Due.due("count(0)", x.count(0), 0);
    }
}
