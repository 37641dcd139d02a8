/** Promises 1 to 5: a new object, place, cut, first, names. */
public final class RowTest {
    public static void main(String[] args) {
        newObject();
        places();
        cuts();
        namesOfRow();
        Due.end();
    }

    private static void newObject() {
        NameRows x = new NameRows();
        for (int what = 0; what <= 4; what++) {
            Due.due("new: count(" + what + ")", x.count(what), 0);
        }
        Due.due("new: names()", x.names(), 0);
        Due.due("new: told(0, 0)", x.told(0, 0), NameRows.BAD);
        Due.due("new: seen(0, 0)", x.seen(0, 0), NameRows.BAD);
        Due.due("new: drop()", x.drop(), NameRows.NONE);
        for (int k = 0; k < 4; k++) {
            Due.due("new: lay(" + k + ", 0, 0)", x.lay(k, 0, 0), -11);
        }
    }

    private static void places() {
        NameRows x = new NameRows();
        Due.due("place(-1, 0)", x.place(-1, 0), NameRows.BAD);
        Due.due("place(3, 0)", x.place(3, 0), NameRows.BAD);
        for (int i = 0; i < 40; i++) {
            Due.due("place " + i, x.place(i % 3, i % 2 == 0 ? Integer.MIN_VALUE : Integer.MAX_VALUE), i + 1);
        }
        Due.due("place 40", x.place(2, 0), NameRows.FULL);
        Due.due("place 40 of a bad letter", x.place(3, 0), NameRows.BAD);
        Due.due("count(0)", x.count(0), 40);
        Due.due("names()", x.names(), 2);
    }

    private static void cuts() {
        NameRows x = new NameRows();
        Due.due("cut(0) of nothing", x.cut(0), 0);
        x.place(0, 1);
        x.place(0, 2);
        x.place(0, 3);
        Due.due("cut(4)", x.cut(4), NameRows.BAD);
        Due.due("cut(-1)", x.cut(-1), NameRows.BAD);
        Due.due("cut(3)", x.cut(3), 3);
        Due.due("cut(1)", x.cut(1), 3);
        Due.due("count(0)", x.count(0), 1);
        Due.due("cut(2)", x.cut(2), NameRows.BAD);
        Due.due("place behind", x.place(1, 1), 2);
        Due.due("first(1)", x.first(1), 0);
        Due.due("cut(0)", x.cut(0), 2);
        Due.due("count(0)", x.count(0), 0);
    }

    private static void namesOfRow() {
        NameRows x = new NameRows();
        int[] row = {7, -7, 7, 0, -7, 0};
        int[] first = {0, 1, 0, 3, 1, 3};
        int[] unlike = {1, 2, 2, 3, 3, 3};
        for (int i = 0; i < row.length; i++) {
            Due.due("first(" + i + ") too early", x.first(i), NameRows.BAD);
            x.place(i % 3, row[i]);
            Due.due("first(" + i + ")", x.first(i), first[i]);
            Due.due("names() behind " + i, x.names(), unlike[i]);
        }
        Due.due("first(-1)", x.first(-1), NameRows.BAD);
        Due.due("first(MAX)", x.first(Integer.MAX_VALUE), NameRows.BAD);
    }
}
