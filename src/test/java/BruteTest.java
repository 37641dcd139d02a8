import java.util.ArrayList;
import java.util.List;
import java.util.Random;

/**
 * Least rows, within and doomed orbits held against all rows up to a length, up to renaming.
 * Here names that were kept once and lost again come too, so it is seen that they part nothing.
 */
public final class BruteTest {
    private static final int LONGEST = 4, TRIES = 300, NONE = NameRows.NONE;

    public static void main(String[] args) {
        List<int[][]> rows = new ArrayList<>();
        for (int length = 0; length <= LONGEST; length++) {
            addRows(rows, new int[length][], 0, 0);
        }
        Random random = new Random(1);
        for (int i = 0; i < TRIES; i++) {
            check(i, new Model(), new NameRows(), rows, random);
        }
        Due.end();
    }

    private static void addRows(List<int[][]> rows, int[][] row, int at, int names) {
        if (at == row.length) {
            rows.add(row.clone());
            return;
        }
        for (int letter = 0; letter < 3; letter++) {
            for (int name = 0; name <= names; name++) {
                row[at] = new int[] {letter, name};
                addRows(rows, row, at + 1, Math.max(names, name + 1));
            }
        }
    }

    private static void check(int run, Model model, NameRows x, List<int[][]> rows, Random random) {
        for (int m = 0; m < 2; m++) {
            int n = 2 + random.nextInt(4);
            int k = random.nextInt(3);
            x.machine(n, k);
            model.machine(n, k);
            for (int at = 0; at < n * 9; at++) {
                int to = random.nextInt(5) == 0 ? random.nextInt(n) : at / 9;
                int keep = random.nextBoolean() ? NONE : random.nextInt(2);
                x.step(m, at / 9, at / 3 % 3, at % 3, to, keep);
                model.step(m, at / 9, at / 3 % 3, at % 3, to, keep);
            }
            x.good(m, n - 1, true);
            model.good(m, n - 1, true);
        }
        int shortest = NONE;
        int parts = NONE;
        boolean outside = false;
        for (int[][] row : rows) {
            // Model.takes is used, as an object is not good for so many calls
            model.cut(0);
            for (int[] p : row) {
                model.place(p[0], p[1]);
            }
            boolean one = model.takes(0, row.length) == 1;
            boolean other = model.takes(1, row.length) == 1;
            shortest = one && shortest == NONE ? row.length : shortest;
            parts = one != other && parts == NONE ? row.length : parts;
            outside |= one && !other;
        }
        compare(run, "shortest", x.shortest(0), shortest);
        compare(run, "parts", x.parts(0, 1), parts);
        compare(run, "parts turned round", x.parts(1, 0), parts);
        if (outside) {
            Due.due("run " + run + ": within", x.within(0, 1), 0);
        }
        Due.due("run " + run + ": doomed from the beginning", x.doomed(0) == 0 ? 1 : 0, x.shortest(0) == NONE ? 1 : 0);
    }

    private static void compare(int run, String what, int got, int want) {
        boolean longer = want == NONE && (got == NONE || got > LONGEST);
        Due.due("run " + run + ": " + what, longer ? NONE : got, want);
    }
}
