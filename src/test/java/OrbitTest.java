/** Promises 17 to 23: orbits, shortest, shortestAt, parts, partsAt, within, show. */
public final class OrbitTest {
    private static final int BAD = NameRows.BAD, NONE = NameRows.NONE;

    public static void main(String[] args) {
        orbitCounts();
        allPatterns();
        leastTaken();
        leastOrder();
        newNames();
        partedByNames();
        secondRegisters();
        withins();
        shows();
        notRemembered();
        wrongOnes();
        Due.end();
    }

    private static void orbitsAre(NameRows x, int m, int all, int doomed, int states) {
        Due.due("orbits(" + m + ", 0)", x.orbits(m, 0), all);
        Due.due("orbits(" + m + ", 1)", x.orbits(m, 1), doomed);
        Due.due("orbits(" + m + ", 2)", x.orbits(m, 2), states);
    }

    private static void rowIs(NameRows x, int a, int b, int[][] row) {
        String call = b == NONE ? "shortest(" + a : "parts(" + a + ", " + b;
        Due.due(call + ")", b == NONE ? x.shortest(a) : x.parts(a, b), row.length);
        for (int i = 0; i < row.length; i++) {
            for (int what = 0; what < 2; what++) {
                int got = b == NONE ? x.shortestAt(a, i, what) : x.partsAt(a, b, i, what);
                Due.due(call + ") at " + i + ", " + what, got, row[i][what]);
            }
        }
        Due.due(call + ") behind", b == NONE ? x.shortestAt(a, row.length, 0) : x.partsAt(a, b, row.length, 0), BAD);
    }

    private static void orbitCounts() {
        NameRows x = new NameRows();
        x.machine(1, 2);
        orbitsAre(x, 0, 1, 1, 1);
        x.good(0, 0, true);
        orbitsAre(x, 0, 1, 0, 1);
        x.machine(4, 2);
        x.good(1, 0, true);
        x.good(1, 3, true);
        x.step(1, 0, 0, 2, 1, 0);
        x.step(1, 1, 0, 0, 2, 1);
        x.step(1, 1, 0, 2, 2, 1);
        x.step(1, 2, 2, 1, 0, NONE);
        // 0 empty, 1 one, 2 the same, 2 unlike, 0 unlike, 1 unlike; no row leads to state 3
        orbitsAre(x, 1, 6, 1, 3);
        x.step(1, 2, 2, 1, 2, NONE);
        orbitsAre(x, 1, 4, 3, 3);
        // no row leads to case 1 while register 1 is empty
        x.step(1, 0, 0, 1, 3, NONE);
        orbitsAre(x, 1, 4, 3, 3);
        x.machine(6, 0);
        orbitsAre(x, 2, 1, 1, 1);
    }

    private static void allPatterns() {
        NameRows x = new NameRows();
        x.machine(6, 2);
        for (int s = 0; s < 6; s++) {
            for (int which = 0; which < 3; which++) {
                x.step(0, s, 0, which, s, 0);
                x.step(0, s, 1, which, s, 1);
                x.step(0, s, 2, which, (s + 1) % 6, NONE);
            }
        }
        orbitsAre(x, 0, 30, 30, 6);
        x.good(0, 4, true);
        orbitsAre(x, 0, 30, 0, 6);
        rowIs(x, 0, NONE, new int[][] {{2, 0}, {2, 1}, {2, 2}, {2, 3}});
    }

    private static void leastTaken() {
        NameRows x = new NameRows();
        x.machine(4, 1);
        Due.due("shortest(0) of none", x.shortest(0), NONE);
        Due.due("shortestAt(0, 0, 0) of none", x.shortestAt(0, 0, 0), BAD);
        x.step(0, 0, 1, 2, 1, 0);
        x.step(0, 1, 0, 2, 2, NONE);
        x.step(0, 2, 2, 0, 3, NONE);
        x.good(0, 3, true);
        rowIs(x, 0, NONE, new int[][] {{1, 0}, {0, 1}, {2, 0}});
        x.step(0, 1, 0, 0, 2, NONE);
        rowIs(x, 0, NONE, new int[][] {{1, 0}, {0, 0}, {2, 0}});
        x.step(0, 1, 0, 2, 2, 0);
        x.step(0, 1, 0, 0, 1, NONE);
        rowIs(x, 0, NONE, new int[][] {{1, 0}, {0, 1}, {2, 1}});
        x.good(0, 0, true);
        rowIs(x, 0, NONE, new int[0][]);
    }

    /** Of two ways the earlier one: letters before names, register 0 before register 1 before a new one. */
    private static void leastOrder() {
        NameRows x = new NameRows();
        x.machine(4, 2);
        x.step(0, 0, 0, 2, 1, 1);
        x.step(0, 1, 0, 2, 2, 0);
        for (int which = 0; which < 3; which++) {
            x.step(0, 2, 1, which, 3, NONE);
            x.step(0, 2, 2, which, 3, NONE);
        }
        x.good(0, 3, true);
        rowIs(x, 0, NONE, new int[][] {{0, 0}, {0, 1}, {1, 1}});
        x.step(0, 2, 1, 0, 2, NONE);
        rowIs(x, 0, NONE, new int[][] {{0, 0}, {0, 1}, {1, 0}});
        x.step(0, 2, 1, 1, 2, NONE);
        rowIs(x, 0, NONE, new int[][] {{0, 0}, {0, 1}, {1, 2}});
        x.step(0, 2, 1, 2, 2, NONE);
        rowIs(x, 0, NONE, new int[][] {{0, 0}, {0, 1}, {2, 1}});
    }

    private static void newNames() {
        NameRows x = new NameRows();
        x.machine(4, 0);
        for (int s = 0; s < 3; s++) {
            x.step(0, s, 2 - s, 2, s + 1, NONE);
        }
        x.good(0, 3, true);
        rowIs(x, 0, NONE, new int[][] {{2, 0}, {1, 1}, {0, 2}});
        Due.due("show(0, NONE)", x.show(0, NONE), 3);
        Due.due("names()", x.names(), 3);
    }

    /** Both want a name again: the one the first name, the other one the name before. */
    private static void partedByNames() {
        NameRows x = new NameRows();
        for (int m = 0; m < 2; m++) {
            x.machine(3, 1);
            x.good(m, 2, true);
            x.step(m, 0, 0, 2, 1, 0);
            x.step(m, 1, 0, 0, 2, NONE);
            x.step(m, 1, 0, 2, 1, m == 0 ? NONE : 0);
        }
        rowIs(x, 0, 1, new int[][] {{0, 0}, {0, 1}, {0, 0}});
        rowIs(x, 1, 0, new int[][] {{0, 0}, {0, 1}, {0, 1}});
        Due.due("within(0, 1)", x.within(0, 1), 0);
        Due.due("within(1, 0)", x.within(1, 0), 0);
        x.step(1, 1, 0, 2, 1, NONE);
        Due.due("parts(0, 1) of the same", x.parts(0, 1), NONE);
        Due.due("partsAt(0, 1, 0, 0) of the same", x.partsAt(0, 1, 0, 0), BAD);
        Due.due("show(0, 1) of the same", x.show(0, 1), NONE);
        Due.due("within(0, 1) of the same", x.within(0, 1), 1);
        Due.due("parts(0, 0)", x.parts(0, 0), NONE);
        Due.due("within(0, 0)", x.within(0, 0), 1);
        Due.due("count(4)", x.count(4), 1);
    }

    /** The names of the second one's registers come behind those of the first one's. */
    private static void secondRegisters() {
        NameRows x = new NameRows();
        x.machine(1, 1);
        x.step(0, 0, 0, 2, 0, 0);
        x.machine(4, 2);
        x.step(1, 0, 0, 2, 1, 0);
        x.step(1, 1, 0, 2, 2, 1);
        x.step(1, 2, 1, 0, 3, NONE);
        x.step(1, 2, 1, 1, 3, NONE);
        x.good(1, 3, true);
        rowIs(x, 0, 1, new int[][] {{0, 0}, {0, 1}, {1, 1}});
        rowIs(x, 1, 0, new int[][] {{0, 0}, {0, 1}, {1, 0}});
        x.step(0, 0, 0, 2, 0, NONE);
        rowIs(x, 0, 1, new int[][] {{0, 0}, {0, 1}, {1, 0}});
        x.step(1, 2, 1, 0, 2, NONE);
        rowIs(x, 0, 1, new int[][] {{0, 0}, {0, 1}, {1, 1}});
    }

    private static void withins() {
        NameRows x = new NameRows();
        x.machine(1, 0);
        x.machine(1, 2);
        x.good(1, 0, true);
        x.machine(2, 1);
        x.step(2, 0, 0, 2, 1, NONE);
        x.good(2, 1, true);
        int[][] within = {{1, 1, 1}, {0, 1, 0}, {0, 1, 1}};
        int[][] parts = {{NONE, 0, 1}, {0, NONE, 0}, {1, 0, NONE}};
        for (int a = 0; a < 3; a++) {
            for (int b = 0; b < 3; b++) {
                Due.due("within(" + a + ", " + b + ")", x.within(a, b), within[a][b]);
                Due.due("parts(" + a + ", " + b + ")", x.parts(a, b), parts[a][b]);
            }
        }
    }

    private static void shows() {
        NameRows x = new NameRows();
        x.machine(3, 1);
        x.step(0, 0, 1, 2, 1, 0);
        x.step(0, 1, 2, 2, 2, NONE);
        x.machine(1, 0);
        x.place(0, 9);
        x.place(0, 9);
        x.place(0, 9);
        Due.due("show(0, NONE) of none", x.show(0, NONE), NONE);
        Due.due("show(0, 1) of the same", x.show(0, 1), NONE);
        Due.due("the row stays", x.count(0), 3);
        x.good(0, 2, true);
        Due.due("show(2, NONE)", x.show(2, NONE), BAD);
        Due.due("show(NONE, 0)", x.show(NONE, 0), BAD);
        Due.due("show(0, 2)", x.show(0, 2), BAD);
        Due.due("show(0, BAD)", x.show(0, BAD), BAD);
        Due.due("the row stays", x.count(0), 3);
        Due.due("show(0, NONE)", x.show(0, NONE), 2);
        Due.due("its length", x.count(0), 2);
        Due.due("it is taken", x.takes(0, 2), 1);
        Due.due("its names", x.first(1), 1);
        Due.due("name 0 comes first", x.place(0, 0), 3);
        Due.due("name 0 came first", x.first(2), 0);
        Due.due("name 1 comes then", x.place(0, 1), 4);
        Due.due("name 1 came then", x.first(3), 1);
        x.good(1, 0, true);
        Due.due("show(0, 1)", x.show(0, 1), 0);
        Due.due("its length", x.count(0), 0);
        x.place(2, 2);
        Due.due("partsAt is not of the row", x.partsAt(0, 1, 0, 0), BAD);
    }

    /** A least row is of the machines as they are, not as they were when it was asked for last. */
    private static void notRemembered() {
        NameRows x = new NameRows();
        x.machine(2, 0);
        x.machine(2, 0);
        x.good(0, 1, true);
        x.step(0, 0, 1, 2, 1, NONE);
        rowIs(x, 0, 1, new int[][] {{1, 0}});
        rowIs(x, 0, NONE, new int[][] {{1, 0}});
        x.step(0, 0, 0, 2, 1, NONE);
        rowIs(x, 0, NONE, new int[][] {{0, 0}});
        x.good(1, 0, true);
        rowIs(x, 0, 1, new int[0][]);
        x.good(1, 0, false);
        rowIs(x, 0, 1, new int[][] {{0, 0}});
        x.step(0, 0, 0, 2, 0, NONE);
        rowIs(x, 0, 1, new int[][] {{1, 0}});
        x.drop();
        Due.due("parts(0, 1)", x.parts(0, 1), BAD);
        x.turned(0);
        rowIs(x, 0, 1, new int[0][]);
        Due.due("count(4)", x.count(4), 2);
        x.drop();
        x.both(0, 0, 0);
        Due.due("parts(0, 1)", x.parts(0, 1), NONE);
        Due.due("count(4)", x.count(4), 1);
    }

    private static void wrongOnes() {
        NameRows x = new NameRows();
        x.machine(2, 1);
        x.machine(2, 1);
        x.good(0, 1, true);
        x.step(0, 0, 0, 2, 1, NONE);
        int[] bad = {-1, NONE, 2, 6, Integer.MIN_VALUE, Integer.MAX_VALUE};
        for (int m : bad) {
            Due.due("orbits(" + m + ", 0)", x.orbits(m, 0), BAD);
            Due.due("shortest(" + m + ")", x.shortest(m), BAD);
            Due.due("shortestAt(" + m + ", 0, 0)", x.shortestAt(m, 0, 0), BAD);
            Due.due("parts(" + m + ", 0)", x.parts(m, 0), BAD);
            Due.due("parts(0, " + m + ")", x.parts(0, m), BAD);
            Due.due("partsAt(" + m + ", 0, 0, 0)", x.partsAt(m, 0, 0, 0), BAD);
            Due.due("partsAt(0, " + m + ", 0, 0)", x.partsAt(0, m, 0, 0), BAD);
            Due.due("within(" + m + ", 0)", x.within(m, 0), BAD);
            Due.due("within(0, " + m + ")", x.within(0, m), BAD);
            Due.due("shortestAt(0, 0, " + m + ")", x.shortestAt(0, 0, m), BAD);
            Due.due("shortestAt(0, " + m + ", 0)", x.shortestAt(0, m, 0), BAD);
            Due.due("partsAt(0, 1, 0, " + m + ")", x.partsAt(0, 1, 0, m), BAD);
            Due.due("partsAt(0, 1, " + m + ", 0)", x.partsAt(0, 1, m, 0), BAD);
        }
        Due.due("orbits(0, 3)", x.orbits(0, 3), BAD);
        Due.due("orbits(0, -1)", x.orbits(0, -1), BAD);
    }
}
