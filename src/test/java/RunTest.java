/** Promises 14 to 16: takes, ran, doomed. */
public final class RunTest {
    private static final int BAD = NameRows.BAD, NONE = NameRows.NONE;

    public static void main(String[] args) {
        takesPrefixes();
        keepsNames();
        registerOneOnly();
        doomedPlaces();
        wrongOnes();
        Due.end();
    }

    /** Takes rows whose last name is their first one again. */
    private static void takesPrefixes() {
        NameRows x = new NameRows();
        x.machine(3, 1);
        x.good(0, 2, true);
        for (int letter = 0; letter < 3; letter++) {
            x.step(0, 0, letter, 2, 1, 0);
            x.step(0, 1, letter, 0, 2, NONE);
            x.step(0, 2, letter, 2, 1, NONE);
        }
        int[] row = {Integer.MIN_VALUE, 0, Integer.MIN_VALUE, Integer.MIN_VALUE, 5, 0, Integer.MIN_VALUE};
        int[] takes = {0, 0, 0, 1, 1, 0, 0, 1};
        for (int i = 0; i < row.length; i++) {
            x.place(i % 3, row[i]);
        }
        for (int n = 0; n < takes.length; n++) {
            Due.due("takes(0, " + n + ")", x.takes(0, n), takes[n]);
        }
        x.good(0, 0, true);
        Due.due("takes(0, 0)", x.takes(0, 0), 1);
    }

    private static void keepsNames() {
        NameRows x = new NameRows();
        x.machine(2, 2);
        x.step(0, 0, 0, 2, 0, 0);
        x.step(0, 0, 1, 2, 1, 1);
        x.step(0, 1, 0, 0, 1, 1);
        x.step(0, 1, 1, 0, 0, 0);
        x.step(0, 1, 2, 1, 0, NONE);
        int[][] row = {{0, 8}, {1, 9}, {2, 9}, {1, 4}, {1, 8}, {2, 4}, {0, 6}, {1, 6}, {1, 7}, {0, 6}, {2, 6}, {2, 7}};
        int[][] ran = {
            {0, NONE, NONE, NONE}, {0, 0, NONE, 2}, {1, 0, 1, 2}, {0, 0, 1, 1}, {1, 0, 3, 2}, {0, 4, 3, 0},
            {0, 4, 3, 1}, {0, 6, 3, 2}, {0, 6, 3, 0}, {1, 6, 8, 2}, {1, 6, 9, 0}, {1, 6, 9, 0}, {1, 6, 9, 2},
        };
        for (int[] p : row) {
            x.place(p[0], p[1]);
        }
        for (int n = 0; n < ran.length; n++) {
            for (int what = 0; what < 4; what++) {
                Due.due("ran(0, " + n + ", " + what + ")", x.ran(0, n, what), ran[n][what]);
            }
        }
    }

    /** Register 1 may be full while register 0 is empty; name 0 is not the name of an empty one. */
    private static void registerOneOnly() {
        NameRows x = new NameRows();
        x.machine(1, 2);
        x.step(0, 0, 0, 2, 0, 1);
        x.place(1, 0);
        Due.due("ran(0, 1, 3)", x.ran(0, 1, 3), 2);
        x.place(0, 0);
        x.place(1, 0);
        Due.due("ran(0, 3, 1)", x.ran(0, 3, 1), NONE);
        Due.due("ran(0, 3, 2)", x.ran(0, 3, 2), 1);
        Due.due("ran(0, 3, 3)", x.ran(0, 3, 3), 1);
        x.machine(1, 0);
        Due.due("ran(1, 3, 1)", x.ran(1, 3, 1), NONE);
        Due.due("ran(1, 3, 2)", x.ran(1, 3, 2), NONE);
        Due.due("ran(1, 3, 3)", x.ran(1, 3, 3), 2);
    }

    /** One state is doomed if both registers have the same name, and is not if they have two. */
    private static void doomedPlaces() {
        NameRows x = new NameRows();
        x.machine(3, 2);
        x.good(0, 0, true);
        x.step(0, 0, 0, 2, 1, 0);
        x.step(0, 1, 0, 0, 2, 1);
        x.step(0, 1, 0, 2, 2, 1);
        x.step(0, 2, 2, 1, 0, NONE);
        Due.due("doomed(0) of no places", x.doomed(0), NONE);
        int[][] row = {{0, 5}, {0, 6}, {1, 5}, {2, 6}, {0, 7}, {1, 7}, {0, 7}, {2, 7}};
        for (int n = 1; n <= row.length; n++) {
            x.place(row[n - 1][0], row[n - 1][1]);
            Due.due("doomed(0) of " + n, x.doomed(0), n < 7 ? NONE : 7);
        }
        x.cut(1);
        x.place(0, 5);
        Due.due("doomed(0) with one name", x.doomed(0), 2);
        x.step(0, 2, 2, 0, 0, NONE);
        Due.due("doomed(0) no more", x.doomed(0), NONE);
        x.good(0, 0, false);
        Due.due("doomed(0) from the beginning", x.doomed(0), 0);
        sinks(x);
    }

    private static void sinks(NameRows x) {
        int m = x.machine(3, 0);
        x.good(m, 1, true);
        x.step(m, 0, 0, 2, 1, NONE);
        x.step(m, 1, 1, 2, 2, NONE);
        x.cut(0);
        int[] letters = {2, 0, 0, 1, 0};
        int[] due = {NONE, NONE, NONE, 4, 4};
        for (int i = 0; i < letters.length; i++) {
            x.place(letters[i], i);
            Due.due("doomed of a sink behind " + (i + 1), x.doomed(m), due[i]);
        }
        x.good(m, 1, false);
        Due.due("doomed without good states", x.doomed(m), 0);
        x.good(m, 2, true);
        Due.due("doomed no more", x.doomed(m), NONE);
    }

    private static void wrongOnes() {
        NameRows x = new NameRows();
        Due.due("takes(0, 0) of no machine", x.takes(0, 0), BAD);
        Due.due("ran(0, 0, 0) of no machine", x.ran(0, 0, 0), BAD);
        Due.due("doomed(0) of no machine", x.doomed(0), BAD);
        x.machine(1, 0);
        Due.due("takes(0, 1)", x.takes(0, 1), BAD);
        Due.due("takes(0, -1)", x.takes(0, -1), BAD);
        Due.due("takes(-1, 0)", x.takes(-1, 0), BAD);
        Due.due("ran(0, 1, 0)", x.ran(0, 1, 0), BAD);
        Due.due("ran(0, -1, 0)", x.ran(0, -1, 0), BAD);
        Due.due("ran(0, 0, 4)", x.ran(0, 0, 4), BAD);
        Due.due("ran(0, 0, -1)", x.ran(0, 0, -1), BAD);
        Due.due("ran(1, 0, 0)", x.ran(1, 0, 0), BAD);
        Due.due("doomed(1)", x.doomed(1), BAD);
        Due.due("doomed(-1)", x.doomed(-1), BAD);
    }
}
