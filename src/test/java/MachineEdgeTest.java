/** The boundary cases that promises 6 to 11 name: machine, step, good, told, stepOf, drop. */
public final class MachineEdgeTest {
    private static final int BAD = -1, STATE = -2, FULL = -3, NONE = -4;
    /** One machine for each number of registers, each of two states. */
    private static final String[] BY_REGISTERS = {"machine(2, 0)", "machine(2, 1)", "machine(2, 2)"};

    public static void main(String[] args) {
        machine();
        machineAtFirst();
        stepNumbers();
        stepCases();
        stepKeeps();
        stepWatched();
        good();
        told();
        stepOf();
        drop();
        Due.end();
    }

    private static void machine() {
        Edge.of(6, "BAD: 1 to 6 STATES", Setting.BUSY)
            .refusedFor("machine(*, 0)", BAD, "0", "7", "-1", "NONE", "MIN", "MAX").due("machine(6, 0)", 5);
        Edge.of(6, "BAD: 0 to 2 REGISTERS", Setting.BUSY)
            .refusedFor("machine(1, *)", BAD, "-1", "3", "NONE", "MIN", "MAX").due("machine(1, 2)", 5);
        Edge.of(6, "the smallest and the biggest").due("machine(1, 0)", 0).due("told(0, 0)", 1).due("told(0, 1)", 0)
            .due("machine(6, 2)", 1).due("told(1, 0)", 6).due("told(1, 1)", 2);
        Edge.of(6, "FULL: there are 6 MACHINES", Setting.MACHINES).refused("machine(1, 0)", FULL)
            .refused("machine(6, 2)", FULL).due("drop()", 5).due("machine(1, 0)", 5).refused("machine(1, 0)", FULL);
        Edge.of(6, "BAD comes ahead of FULL", Setting.MACHINES)
            .refused("machine(0, 0)", BAD).refused("machine(7, 0)", BAD)
            .refused("machine(1, -1)", BAD).refused("machine(1, 3)", BAD);
        Edge.of(6, "they are numbered as they come").due("machine(2, 1)", 0).due("machine(2, 1)", 1)
            .due("machine(3, 0)", 2).due("machine(1, 0)", 3).due("machine(1, 2)", 4).due("machine(1, 0)", 5)
            .due("count(1)", 6).due("told(2, 0)", 3).due("told(4, 1)", 2);
    }

    /** Also in the stead of one that had steps and good states. */
    private static void machineAtFirst() {
        Edge edge = Edge.of(6, "at first the next STATE is the STATE itself, NONE is kept, no STATE is GOOD",
            new String[] {"machine(6, 2)"});
        for (int round = 0; round < 2; round++) {
            edge.due("told(0, 2)", 0);
            for (int at = 0; at < 54; at++) {
                String step = "0, " + at / 9 + ", " + at / 3 % 3 + ", " + at % 3;
                edge.due("stepOf(" + step + ", 0)", at / 9).due("stepOf(" + step + ", 1)", NONE);
                if (round == 0 && at % 4 == 0) {
                    edge.given("step(" + step + ", 5, 1)");
                }
            }
            if (round == 0) {
                edge.given("good(0, 0, true)", "good(0, 5, true)", "orbits(0, 0)", "shortest(0)", "drop()", "machine(6, 2)");
            }
        }
        edge.due("shortest(0)", NONE).due("orbits(0, 0)", 1).due("doomed(0)", 0);
    }

    private static void stepNumbers() {
        Edge.of(7, "BAD: there is no such MACHINE", Setting.BUSY)
            .refusedFor("step(*, 0, 0, 2, 0, NONE)", BAD, "-1", "5", "6", "NONE", "MIN", "MAX");
        Edge.of(7, "BAD: there is no such STATE", Setting.BUSY)
            .refusedFor("step(1, *, 0, 2, 0, NONE)", BAD, "-1", "2", "5", "6", "NONE", "MIN", "MAX")
            .due("step(1, 1, 0, 2, 0, NONE)", 1);
        Edge.of(7, "BAD: there is no such LETTER", Setting.BUSY)
            .refusedFor("step(1, 0, *, 2, 0, NONE)", BAD, "-1", "3", "NONE", "MIN", "MAX")
            .due("step(1, 0, 2, 2, 1, NONE)", 1).due("stepOf(1, 0, 2, 2, 0)", 1);
        Edge.of(7, "BAD: there is no such next STATE", Setting.BUSY)
            .refusedFor("step(1, 0, 0, 2, *, NONE)", BAD, "-1", "2", "5", "6", "NONE", "MIN", "MAX")
            .due("step(1, 0, 0, 2, 0, NONE)", 1).due("stepOf(1, 0, 0, 2, 0)", 0).due("stepOf(1, 0, 0, 2, 1)", NONE);
        Edge.of(7, "BAD: a MACHINE that went").given(BY_REGISTERS).given("drop()")
            .refused("step(2, 0, 0, 2, 0, NONE)", BAD);
        Edge.of(7, "the last STATE, LETTER and CASE of the biggest MACHINE").given("machine(6, 2)")
            .due("step(0, 5, 2, 2, 5, 1)", 1).due("step(0, 5, 2, 2, 0, 1)", 1).due("stepOf(0, 5, 2, 2, 0)", 0)
            .due("stepOf(0, 5, 2, 2, 1)", 1).due("stepOf(0, 5, 2, 1, 0)", 5).due("stepOf(0, 5, 1, 2, 0)", 5);
    }

    private static void stepCases() {
        Edge.of(7, "BAD: no such CASE", Setting.BUSY)
            .refusedFor("step(4, 0, 0, *, 0, NONE)", BAD, "-1", "3", "NONE", "MIN", "MAX");
        Edge.of(7, "BAD: without REGISTERS there is CASE 2 alone", BY_REGISTERS)
            .refusedFor("step(0, 0, 0, *, 1, NONE)", BAD, "-1", "0", "1", "3").due("step(0, 0, 0, 2, 1, NONE)", 1);
        Edge.of(7, "BAD: with one REGISTER there is no CASE 1", BY_REGISTERS)
            .refusedFor("step(1, 0, 0, *, 1, NONE)", BAD, "-1", "1", "3")
            .due("step(1, 0, 0, 0, 1, NONE)", 1).due("step(1, 0, 0, 2, 1, NONE)", 1);
        Edge.of(7, "with two REGISTERS there are CASES 0, 1, 2", BY_REGISTERS)
            .refusedFor("step(2, 0, 0, *, 1, NONE)", BAD, "-1", "3").due("step(2, 0, 0, 0, 1, NONE)", 1)
            .due("step(2, 0, 0, 1, 1, NONE)", 1).due("step(2, 0, 0, 2, 1, NONE)", 1);
    }

    private static void stepKeeps() {
        Edge.of(7, "BAD: without REGISTERS NONE alone is kept", BY_REGISTERS)
            .refusedFor("step(0, 0, 0, 2, 1, *)", BAD, "0", "1", "2", "-1", "-2", "-3", "-5", "MIN", "MAX")
            .due("step(0, 0, 0, 2, 1, NONE)", 1).due("stepOf(0, 0, 0, 2, 1)", NONE);
        Edge.of(7, "BAD: one REGISTER is REGISTER 0", BY_REGISTERS)
            .refusedFor("step(1, 0, 0, 2, 1, *)", BAD, "1", "2", "-1", "-2", "-3", "-5", "MIN", "MAX")
            .due("step(1, 0, 0, 2, 1, 0)", 1).due("stepOf(1, 0, 0, 2, 1)", 0)
            .due("step(1, 0, 0, 2, 1, NONE)", 1).due("stepOf(1, 0, 0, 2, 1)", NONE);
        Edge.of(7, "BAD: two REGISTERS are 0 and 1", BY_REGISTERS)
            .refusedFor("step(2, 0, 0, 2, 1, *)", BAD, "2", "3", "-1", "-2", "-3", "-5", "MIN", "MAX")
            .due("step(2, 0, 0, 2, 1, 1)", 1).due("stepOf(2, 0, 0, 2, 1)", 1);
    }

    private static void stepWatched() {
        Edge.of(7, "STATE: a WATCH is of it", Setting.BUSY).refused("step(2, 0, 0, 2, 1, 1)", STATE)
            .refused("step(2, 0, 0, 2, 0, 0)", STATE).due("step(1, 0, 0, 2, 0, NONE)", 1);
        Edge.of(7, "STATE: also a WATCH that is DONE for", Setting.BUSY)
            .due("seen(2, 3)", 0).refused("step(3, 0, 0, 2, 0, NONE)", STATE);
        Edge.of(7, "BAD comes ahead of STATE", Setting.BUSY).refused("step(2, 2, 0, 2, 0, NONE)", BAD)
            .refused("step(2, 0, 3, 2, 0, NONE)", BAD).refused("step(2, 0, 0, 3, 0, NONE)", BAD)
            .refused("step(2, 0, 0, 2, 2, NONE)", BAD).refused("step(2, 0, 0, 2, 0, 2)", BAD);
        Edge.of(7, "a MACHINE made of a watched one is not watched", Setting.BUSY).due("turned(2)", 5)
            .due("step(5, 0, 0, 2, 1, 1)", 1).due("drop()", 5).due("both(2, 0, 0)", 5).due("step(5, 0, 0, 2, 1, 1)", 1);
    }

    private static void good() {
        Edge.of(8, "BAD: there is no such MACHINE", Setting.BUSY)
            .refusedFor("good(*, 0, true)", BAD, "-1", "5", "6", "NONE", "MIN", "MAX");
        Edge.of(8, "BAD: there is no such STATE", Setting.BUSY)
            .refusedFor("good(1, *, true)", BAD, "-1", "2", "5", "6", "NONE", "MIN", "MAX")
            .due("good(1, 0, true)", 0).due("good(1, 1, true)", 1);
        Edge.of(8, "STATE: a WATCH is of it", Setting.BUSY)
            .refused("good(2, 1, true)", STATE).refused("good(2, 0, true)", STATE).refused("good(2, 0, false)", STATE)
            .refused("good(3, 0, true)", STATE).due("good(1, 1, false)", 1).due("told(1, 2)", 0);
        Edge.of(8, "BAD comes ahead of STATE", Setting.BUSY).refused("good(2, 2, true)", BAD).refused("good(2, -1, true)", BAD);
        Edge.of(8, "whether it was, not whether it is").given("machine(6, 0)").due("good(0, 5, false)", 0)
            .due("good(0, 5, true)", 0).due("good(0, 5, true)", 1).due("told(0, 2)", 1).due("good(0, 5, false)", 1)
            .due("good(0, 5, false)", 0).due("told(0, 2)", 0);
    }

    private static void told() {
        Edge.of(9, "BAD: there is no such MACHINE", Setting.BUSY)
            .refusedFor("told(*, 0)", BAD, "-1", "5", "6", "NONE", "MIN", "MAX").due("told(4, 0)", 1);
        Edge.of(9, "BAD: what is 0 to 2", Setting.BUSY).refusedFor("told(2, *)", BAD, "-1", "3", "NONE", "MIN", "MAX")
            .due("told(2, 0)", 2).due("told(2, 1)", 2).due("told(2, 2)", 1);
        Edge.of(9, "BAD: a seventh MACHINE", Setting.MACHINES).refused("told(6, 0)", BAD).due("told(5, 1)", 1);
        Edge all = Edge.of(9, "no GOOD STATE, and all of them").given("machine(6, 1)").due("told(0, 2)", 0);
        for (int s = 0; s < 6; s++) {
            all.given("good(0, " + s + ", true)").due("told(0, 2)", s + 1);
        }
    }

    private static void stepOf() {
        Edge.of(10, "BAD: there is no such MACHINE", Setting.BUSY)
            .refusedFor("stepOf(*, 0, 0, 2, 0)", BAD, "-1", "5", "6", "NONE", "MIN", "MAX");
        Edge.of(10, "BAD: there is no such STATE", Setting.BUSY)
            .refusedFor("stepOf(1, *, 0, 2, 0)", BAD, "-1", "2", "5", "6", "MIN", "MAX").due("stepOf(1, 1, 0, 2, 0)", 1);
        Edge.of(10, "BAD: there is no such LETTER", Setting.BUSY)
            .refusedFor("stepOf(1, 0, *, 2, 0)", BAD, "-1", "3", "MIN", "MAX").due("stepOf(1, 0, 0, 2, 0)", 1);
        Edge.of(10, "BAD: what is 0 or 1", Setting.BUSY)
            .refusedFor("stepOf(1, 0, 0, 2, *)", BAD, "-1", "2", "NONE", "MIN", "MAX")
            .due("stepOf(1, 0, 0, 2, 0)", 1).due("stepOf(1, 0, 0, 2, 1)", 0);
        Edge.of(10, "BAD: there is no such CASE", BY_REGISTERS)
            .refusedFor("stepOf(0, 0, 0, *, 0)", BAD, "-1", "0", "1", "3", "MIN", "MAX")
            .refusedFor("stepOf(1, 0, 0, *, 0)", BAD, "-1", "1", "3").refusedFor("stepOf(2, 0, 0, *, 0)", BAD, "-1", "3")
            .due("stepOf(0, 1, 0, 2, 0)", 1).due("stepOf(1, 1, 0, 0, 0)", 1).due("stepOf(2, 1, 0, 1, 0)", 1);
        Edge.of(10, "-4: NONE is kept", BY_REGISTERS).due("stepOf(2, 0, 0, 0, 1)", NONE)
            .given("step(2, 0, 0, 0, 1, 1)").due("stepOf(2, 0, 0, 0, 1)", 1).due("stepOf(2, 0, 0, 1, 1)", NONE)
            .due("stepOf(2, 0, 1, 0, 1)", NONE).due("stepOf(2, 1, 0, 0, 1)", NONE);
    }

    private static void drop() {
        Edge.of(11, "NONE: there is no MACHINE").refused("drop()", NONE).given("machine(1, 0)").due("drop()", 0)
            .refused("drop()", NONE).due("machine(2, 1)", 0);
        Edge.of(11, "STATE: a WATCH is of it").given("machine(1, 0)", "machine(2, 0)", "watch(1)")
            .refused("drop()", STATE).due("count(1)", 2);
        Edge.of(11, "STATE: also a WATCH that is DONE for", Setting.BUSY).due("drop()", 4).refused("drop()", STATE);
        Edge.of(11, "a WATCH of an earlier one does not matter").given("machine(1, 0)", "machine(2, 0)", "watch(0)")
            .due("drop()", 1).refused("drop()", STATE).due("count(1)", 1).due("seen(0, 0)", 0);
        Edge.of(11, "the latest of 6 goes", Setting.MACHINES).due("drop()", 5).refused("told(5, 0)", BAD)
            .due("told(4, 0)", 2).due("drop()", 4).due("drop()", 3).due("count(1)", 3).due("machine(4, 0)", 3);
    }
}
