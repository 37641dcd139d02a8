/** Promises 6 to 13: machine, step, good, told, stepOf, drop, turned, both. */
public final class MachineTest {
    private static final int BAD = NameRows.BAD, STATE = NameRows.STATE, FULL = NameRows.FULL, NONE = NameRows.NONE;

    public static void main(String[] args) {
        machines();
        steps();
        wrongSteps();
        goods();
        drops();
        turns();
        bothWays();
        bothOrder();
        bothRegisters();
        bothRefused();
        Due.end();
    }

    private static void machines() {
        NameRows x = new NameRows();
        int[][] bad = {{0, 0}, {7, 0}, {-1, 0}, {1, -1}, {1, 3}, {Integer.MAX_VALUE, 0}, {1, NONE}};
        for (int[] b : bad) {
            Due.due("machine(" + b[0] + ", " + b[1] + ")", x.machine(b[0], b[1]), BAD);
        }
        for (int i = 0; i < 6; i++) {
            Due.due("machine " + i, x.machine(i + 1, i % 3), i);
            Due.due("its states", x.told(i, 0), i + 1);
            Due.due("its registers", x.told(i, 1), i % 3);
            Due.due("its good states", x.told(i, 2), 0);
        }
        Due.due("machine 6", x.machine(1, 0), FULL);
        Due.due("machine 6, bad", x.machine(0, 0), BAD);
        Due.due("count(1)", x.count(1), 6);
        Due.due("told(6, 0)", x.told(6, 0), BAD);
        Due.due("told(-1, 0)", x.told(-1, 0), BAD);
        Due.due("told(0, -1)", x.told(0, -1), BAD);
        Due.due("told(0, 3)", x.told(0, 3), BAD);
    }

    private static void steps() {
        NameRows x = new NameRows();
        x.machine(6, 2);
        for (int s = 0; s < 6; s++) {
            for (int letter = 0; letter < 3; letter++) {
                for (int which = 0; which < 3; which++) {
                    Due.due("next at first", x.stepOf(0, s, letter, which, 0), s);
                    Due.due("kept at first", x.stepOf(0, s, letter, which, 1), NONE);
                }
            }
        }
        for (int at = 0; at < 54; at++) {
            int keep = at % 4 == 3 ? NONE : at % 2;
            Due.due("step " + at, x.step(0, at / 9, at / 3 % 3, at % 3, at % 5, keep), 1);
        }
        for (int at = 0; at < 54; at++) {
            int keep = at % 4 == 3 ? NONE : at % 2;
            Due.due("next of " + at, x.stepOf(0, at / 9, at / 3 % 3, at % 3, 0), at % 5);
            Due.due("kept of " + at, x.stepOf(0, at / 9, at / 3 % 3, at % 3, 1), keep);
        }
    }

    private static void wrongSteps() {
        NameRows x = new NameRows();
        x.machine(2, 0);
        x.machine(2, 1);
        x.machine(2, 2);
        int[][] bad = {
            {3, 0, 0, 2, 0, NONE}, {-1, 0, 0, 2, 0, NONE}, {0, 2, 0, 2, 0, NONE}, {0, -1, 0, 2, 0, NONE},
            {0, 0, 3, 2, 0, NONE}, {0, 0, -1, 2, 0, NONE}, {0, 0, 0, 3, 0, NONE}, {0, 0, 0, -1, 0, NONE},
            {0, 0, 0, 0, 0, NONE}, {0, 0, 0, 1, 0, NONE}, {1, 0, 0, 1, 0, NONE}, {0, 0, 0, 2, 2, NONE},
            {0, 0, 0, 2, -1, NONE}, {0, 0, 0, 2, 0, 0}, {1, 0, 0, 2, 0, 1}, {2, 0, 0, 2, 0, 2},
            {2, 0, 0, 2, 0, -1}, {2, 0, 0, 2, 0, -3}, {2, 0, 0, 2, 0, -5},
        };
        for (int[] b : bad) {
            Due.due("step" + java.util.Arrays.toString(b), x.step(b[0], b[1], b[2], b[3], b[4], b[5]), BAD);
        }
        Due.due("step(1, 0, 0, 0, 1, 0)", x.step(1, 0, 0, 0, 1, 0), 1);
        Due.due("step(2, 0, 0, 1, 1, 1)", x.step(2, 0, 0, 1, 1, 1), 1);
        Due.due("stepOf a case that is not", x.stepOf(1, 0, 0, 1, 0), BAD);
        Due.due("stepOf a case that is not", x.stepOf(0, 0, 0, 0, 0), BAD);
        Due.due("stepOf a state that is not", x.stepOf(0, 2, 0, 2, 0), BAD);
        Due.due("stepOf a letter that is not", x.stepOf(0, 0, 3, 2, 0), BAD);
        Due.due("stepOf a machine that is not", x.stepOf(3, 0, 0, 2, 0), BAD);
        Due.due("stepOf what is not", x.stepOf(0, 0, 0, 2, 2), BAD);
        Due.due("stepOf what is not", x.stepOf(0, 0, 0, 2, -1), BAD);
        x.watch(1);
        Due.due("step of a watched one", x.step(1, 0, 0, 0, 0, NONE), STATE);
        Due.due("bad step of a watched one", x.step(1, 0, 0, 1, 0, NONE), BAD);
        Due.due("it is as it was", x.stepOf(1, 0, 0, 0, 0), 1);
        Due.due("step of another one", x.step(2, 0, 0, 0, 0, NONE), 1);
    }

    private static void goods() {
        NameRows x = new NameRows();
        x.machine(3, 0);
        Due.due("good(0, 1, true)", x.good(0, 1, true), 0);
        Due.due("good(0, 1, true)", x.good(0, 1, true), 1);
        Due.due("good(0, 2, true)", x.good(0, 2, true), 0);
        Due.due("told(0, 2)", x.told(0, 2), 2);
        Due.due("good(0, 1, false)", x.good(0, 1, false), 1);
        Due.due("good(0, 1, false)", x.good(0, 1, false), 0);
        Due.due("told(0, 2)", x.told(0, 2), 1);
        Due.due("good(0, 3, true)", x.good(0, 3, true), BAD);
        Due.due("good(0, -1, true)", x.good(0, -1, true), BAD);
        Due.due("good(1, 0, true)", x.good(1, 0, true), BAD);
        x.watch(0);
        Due.due("good of a watched one", x.good(0, 0, true), STATE);
        Due.due("bad good of a watched one", x.good(0, 3, true), BAD);
        Due.due("told(0, 2)", x.told(0, 2), 1);
    }

    private static void drops() {
        NameRows x = new NameRows();
        Due.due("drop() of none", x.drop(), NONE);
        x.machine(1, 0);
        x.machine(3, 1);
        x.good(1, 2, true);
        x.step(1, 0, 0, 2, 2, 0);
        Due.due("shortest(1)", x.shortest(1), 1);
        Due.due("drop()", x.drop(), 1);
        Due.due("told(1, 0)", x.told(1, 0), BAD);
        Due.due("shortest(1)", x.shortest(1), BAD);
        Due.due("a new one in its stead", x.machine(3, 1), 1);
        Due.due("its good states", x.told(1, 2), 0);
        Due.due("its step", x.stepOf(1, 0, 0, 2, 0), 0);
        Due.due("its kept one", x.stepOf(1, 0, 0, 2, 1), NONE);
        Due.due("shortest(1)", x.shortest(1), NONE);
        x.watch(0);
        Due.due("drop() with a watch of another one", x.drop(), 1);
        Due.due("drop() with a watch of it", x.drop(), STATE);
        Due.due("count(1)", x.count(1), 1);
    }

    private static void turns() {
        NameRows x = new NameRows();
        Due.due("turned(0) of none", x.turned(0), BAD);
        x.machine(3, 2);
        x.good(0, 1, true);
        x.step(0, 0, 2, 1, 2, 0);
        x.step(0, 2, 0, 2, 1, 1);
        x.watch(0);
        Due.due("turned(0)", x.turned(0), 1);
        Due.due("states", x.told(1, 0), 3);
        Due.due("registers", x.told(1, 1), 2);
        Due.due("good states", x.told(1, 2), 2);
        for (int at = 0; at < 27; at++) {
            for (int what = 0; what < 2; what++) {
                Due.due("step " + at, x.stepOf(1, at / 9, at / 3 % 3, at % 3, what),
                    x.stepOf(0, at / 9, at / 3 % 3, at % 3, what));
            }
        }
        Due.due("good(1, 1, true): no watch is of it", x.good(1, 1, true), 0);
        Due.due("good(1, 0, true)", x.good(1, 0, true), 1);
        Due.due("the first one stays", x.told(0, 2), 1);
        for (int i = 2; i < 6; i++) {
            Due.due("turned(1)", x.turned(1), i);
        }
        Due.due("turned(1), one too many", x.turned(1), FULL);
        Due.due("turned(6)", x.turned(6), BAD);
        Due.due("turned(-1)", x.turned(-1), BAD);
    }

    /** Counts a letter up to n and begins anew; good is where it begins. */
    private static int cycle(NameRows x, int n, int letter) {
        int m = x.machine(n, 0);
        for (int s = 0; s < n; s++) {
            x.step(m, s, letter, 2, (s + 1) % n, NONE);
        }
        x.good(m, 0, true);
        return m;
    }

    private static void bothWays() {
        int[] goods = {1, 4, 3};
        for (int way = 0; way < 3; way++) {
            NameRows x = new NameRows();
            cycle(x, 2, 0);
            cycle(x, 3, 0);
            Due.due("both(0, 1, " + way + ")", x.both(0, 1, way), 2);
            Due.due("states", x.told(2, 0), 6);
            Due.due("registers", x.told(2, 1), 0);
            Due.due("good states", x.told(2, 2), goods[way]);
            for (int n = 0; n < 14; n++) {
                int met = (n % 2 == 0 ? 1 : 0) + (n % 3 == 0 ? 1 : 0);
                boolean takes = way == 0 ? met == 2 : way == 1 ? met > 0 : met == 1;
                Due.due("way " + way + " takes " + n, x.takes(2, n), takes ? 1 : 0);
                x.place(0, n);
            }
        }
    }

    private static void bothOrder() {
        NameRows x = new NameRows();
        cycle(x, 2, 2);
        cycle(x, 2, 1);
        Due.due("both(0, 1, 0)", x.both(0, 1, 0), 2);
        // pairs as they are met: (0, 0), by letter 1 (0, 1), by letter 2 (1, 0), then (1, 1)
        int[][] next = {{0, 1, 2}, {1, 0, 3}, {2, 3, 0}, {3, 2, 1}};
        for (int s = 0; s < 4; s++) {
            for (int letter = 0; letter < 3; letter++) {
                Due.due("pair " + s + " by " + letter, x.stepOf(2, s, letter, 2, 0), next[s][letter]);
            }
        }
        Due.due("a pair of one with itself", x.both(0, 0, 2), 3);
        Due.due("its states", x.told(3, 0), 2);
        Due.due("its good states", x.told(3, 2), 0);
    }

    private static void bothRegisters() {
        NameRows x = new NameRows();
        cycle(x, 2, 0);
        x.machine(3, 2);
        x.step(1, 0, 0, 0, 2, 1);
        x.step(1, 0, 0, 1, 1, 0);
        x.step(1, 0, 1, 2, 0, 1);
        x.good(1, 2, true);
        Due.due("both(0, 1, 1)", x.both(0, 1, 1), 2);
        Due.due("both(1, 0, 1)", x.both(1, 0, 1), 3);
        for (int m = 2; m < 4; m++) {
            Due.due("registers", x.told(m, 1), 2);
            Due.due("states", x.told(m, 0), 6);
            // cases that no row leads to count for the meeting all the same, in order 0, 1, 2
            for (int which = 0; which < 3; which++) {
                Due.due("case " + which, x.stepOf(m, 0, 0, which, 0), which + 1);
                Due.due("case " + which + " keeps", x.stepOf(m, 0, 0, which, 1), which == 2 ? NONE : 1 - which);
            }
            Due.due("letter 1 keeps", x.stepOf(m, 0, 1, 2, 1), 1);
        }
        x.drop();
        x.drop();
        x.machine(2, 1);
        x.step(2, 0, 0, 0, 1, 0);
        Due.due("both(2, 0, 2)", x.both(2, 0, 2), 3);
        Due.due("registers", x.told(3, 1), 1);
        Due.due("case 0", x.stepOf(3, 0, 0, 0, 0), 1);
        Due.due("case 1", x.stepOf(3, 0, 0, 1, 0), BAD);
        Due.due("case 2", x.stepOf(3, 0, 0, 2, 0), 2);
        Due.due("kept", x.stepOf(3, 0, 0, 0, 1), 0);
    }

    private static void bothRefused() {
        NameRows x = new NameRows();
        cycle(x, 3, 0);
        cycle(x, 3, 1);
        x.machine(1, 1);
        x.machine(1, 2);
        Due.due("both(0, 1, 0): 9 states", x.both(0, 1, 0), STATE);
        Due.due("both(2, 3, 0): both have registers", x.both(2, 3, 0), STATE);
        Due.due("both(2, 2, 0): both have registers", x.both(2, 2, 0), STATE);
        Due.due("both(2, 3, 3)", x.both(2, 3, 3), BAD);
        Due.due("both(0, 0, -1)", x.both(0, 0, -1), BAD);
        Due.due("both(0, 4, 0)", x.both(0, 4, 0), BAD);
        Due.due("both(-1, 0, 0)", x.both(-1, 0, 0), BAD);
        Due.due("count(1)", x.count(1), 4);
        Due.due("both(0, 3, 0)", x.both(0, 3, 0), 4);
        Due.due("both(0, 0, 0)", x.both(0, 0, 0), 5);
        Due.due("both(0, 0, 0), one too many", x.both(0, 0, 0), FULL);
        Due.due("both(0, 1, 0), one too many of 9 states", x.both(0, 1, 0), STATE);
        Due.due("both(2, 3, 0), one too many with registers", x.both(2, 3, 0), STATE);
        Due.due("both(0, 6, 0)", x.both(0, 6, 0), BAD);
        Due.due("count(1)", x.count(1), 6);
    }
}
