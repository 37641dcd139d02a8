/** The boundary cases that promises 12 and 13 name: turned, both. */
public final class BothEdgeTest {
    private static final int BAD = -1, STATE = -2, FULL = -3, NONE = -4;
    /** Machine 0 has a tail of one state and a circle of two, machine 1 a circle of three, by letter 0. */
    private static final String[] SEVEN_PAIRS = {
        "machine(3, 0)", "step(0, 0, 0, 2, 1, NONE)", "step(0, 1, 0, 2, 2, NONE)", "step(0, 2, 0, 2, 1, NONE)",
        "machine(3, 0)", "step(1, 0, 0, 2, 1, NONE)", "step(1, 1, 0, 2, 2, NONE)", "step(1, 2, 0, 2, 0, NONE)",
    };
    /** Machine 0 turns at letter 0; machine 1 keeps names and goes another way by each case. */
    private static final String[] WITH_REGISTERS = {
        "machine(2, 0)", "step(0, 0, 0, 2, 1, NONE)", "step(0, 1, 0, 2, 0, NONE)", "good(0, 1, true)",
        "machine(3, 2)", "step(1, 0, 0, 0, 1, 1)", "step(1, 0, 0, 1, 2, 0)", "step(1, 0, 1, 2, 0, 1)", "good(1, 2, true)",
    };

    public static void main(String[] args) {
        turned();
        bothBad();
        bothState();
        bothFull();
        bothOrder();
        bothCases();
        bothWays();
        Due.end();
    }

    private static void turned() {
        Edge.of(12, "BAD: there is no such MACHINE", Setting.BUSY)
            .refusedFor("turned(*)", BAD, "-1", "5", "6", "NONE", "MIN", "MAX").due("turned(4)", 5);
        Edge.of(12, "FULL: there are 6 MACHINES", Setting.MACHINES)
            .refusedFor("turned(*)", FULL, "0", "1", "5").due("drop()", 5).due("turned(0)", 5);
        Edge.of(12, "BAD comes ahead of FULL", Setting.MACHINES).refusedFor("turned(*)", BAD, "-1", "6");
        Edge.of(12, "all STATES GOOD, and none").given("machine(6, 2)").due("turned(0)", 1).due("told(1, 2)", 6)
            .due("told(1, 0)", 6).due("told(1, 1)", 2).due("turned(1)", 2).due("told(2, 2)", 0)
            .due("parts(0, 2)", NONE).due("parts(0, 1)", 0);
        Edge.of(12, "as m, the STEPS too; m stays as it is", Setting.BUSY).due("turned(2)", 5)
            .due("stepOf(5, 0, 0, 2, 1)", 0).due("stepOf(5, 0, 1, 2, 1)", 1).due("stepOf(5, 0, 1, 0, 0)", 1)
            .due("told(5, 2)", 1).due("told(2, 2)", 1).due("takes(2, 4)", 1).due("takes(5, 4)", 0)
            .due("good(5, 1, false)", 1).due("good(5, 0, true)", 0).due("parts(2, 5)", NONE);
    }

    private static void bothBad() {
        Edge.of(13, "BAD: there is no such first MACHINE", Setting.BUSY)
            .refusedFor("both(*, 0, 0)", BAD, "-1", "5", "6", "NONE", "MIN", "MAX");
        Edge.of(13, "BAD: there is no such second MACHINE", Setting.BUSY)
            .refusedFor("both(0, *, 0)", BAD, "-1", "5", "6", "NONE", "MIN", "MAX");
        Edge.of(13, "BAD: also way", Setting.BUSY).refusedFor("both(0, 1, *)", BAD, "-1", "3", "NONE", "MIN", "MAX");
        Edge.of(13, "BAD comes ahead of STATE", SEVEN_PAIRS).given("machine(1, 1)").refusedFor("both(0, 1, *)", BAD, "-1", "3")
            .refused("both(2, 2, 3)", BAD).refused("both(2, 3, 0)", BAD).refused("both(3, 2, 0)", BAD);
        Edge.of(13, "BAD comes ahead of FULL", Setting.MACHINES)
            .refused("both(0, 3, 3)", BAD).refused("both(6, 0, 0)", BAD).refused("both(0, 6, 0)", BAD);
    }

    private static void bothState() {
        Edge.of(13, "STATE: both have REGISTERS", Setting.BUSY)
            .refused("both(1, 2, 0)", STATE).refused("both(2, 1, 1)", STATE).refused("both(4, 4, 2)", STATE)
            .due("both(1, 3, 0)", 5);
        Edge.of(13, "STATE: it would have 7 STATES", Setting.reader(), new String[] {"drop()"}, SEVEN_PAIRS)
            .refused("both(0, 1, 0)", STATE).refused("both(1, 0, 2)", STATE);
        Edge.of(13, "6 STATES are not too many", SEVEN_PAIRS).given("step(0, 2, 0, 2, 2, NONE)").due("both(0, 1, 0)", 2)
            .due("told(2, 0)", 5).given("step(0, 1, 0, 2, 0, NONE)").due("both(0, 1, 0)", 3).due("told(3, 0)", 6)
            .due("stepOf(3, 5, 0, 2, 0)", 0).due("stepOf(3, 4, 0, 2, 0)", 5);
        Edge.of(13, "pairs that were met for another one do not count", SEVEN_PAIRS).given("step(0, 1, 0, 2, 0, NONE)")
            .given("both(0, 1, 0)").due("both(1, 1, 0)", 3).due("told(3, 0)", 3).due("both(0, 0, 0)", 4).due("told(4, 0)", 2);
        Edge.of(13, "STATES that are not met do not count").given("machine(6, 0)", "machine(6, 2)", "both(0, 1, 1)")
            .due("told(2, 0)", 1).due("told(2, 1)", 2).due("told(2, 2)", 0);
    }

    private static void bothFull() {
        Edge.of(13, "FULL: there are 6 MACHINES", Setting.MACHINES).refused("both(0, 3, 0)", FULL)
            .refused("both(3, 1, 2)", FULL).due("drop()", 5).due("both(0, 3, 0)", 5).refused("both(0, 3, 0)", FULL);
        Edge.of(13, "STATE comes ahead of FULL: REGISTERS", Setting.MACHINES)
            .refused("both(1, 2, 0)", STATE).refused("both(5, 5, 0)", STATE);
        Edge.of(13, "STATE comes ahead of FULL: 7 STATES", SEVEN_PAIRS)
            .given("machine(1, 0)", "machine(1, 0)", "machine(1, 0)", "machine(1, 0)").refused("both(0, 1, 0)", STATE)
            .refused("both(0, 2, 0)", FULL);
    }

    private static void bothOrder() {
        // machine 0 turns at letter 2, machine 1 at letter 1: (0, 0), then (0, 1), (1, 0), (1, 1)
        Edge.of(13, "numbered in order of meeting, pair by pair by LETTERS")
            .given("machine(2, 0)", "step(0, 0, 2, 2, 1, NONE)", "step(0, 1, 2, 2, 0, NONE)", "good(0, 1, true)")
            .given("machine(2, 0)", "step(1, 0, 1, 2, 1, NONE)", "step(1, 1, 1, 2, 0, NONE)", "good(1, 1, true)")
            .due("both(0, 1, 0)", 2).due("told(2, 0)", 4).due("told(2, 1)", 0)
            .due("stepOf(2, 0, 0, 2, 0)", 0).due("stepOf(2, 0, 1, 2, 0)", 1).due("stepOf(2, 0, 2, 2, 0)", 2)
            .due("stepOf(2, 1, 1, 2, 0)", 0).due("stepOf(2, 1, 2, 2, 0)", 3)
            .due("stepOf(2, 2, 1, 2, 0)", 3).due("stepOf(2, 2, 2, 2, 0)", 0)
            .due("stepOf(2, 3, 1, 2, 0)", 2).due("stepOf(2, 3, 2, 2, 0)", 1)
            .due("both(1, 0, 0)", 3).due("stepOf(3, 0, 1, 2, 0)", 1).due("stepOf(3, 0, 2, 2, 0)", 2);
    }

    private static void bothCases() {
        for (String call : new String[] {"both(0, 1, 1)", "both(1, 0, 1)"}) {
            Edge.of(13, "by CASES of the one that has REGISTERS, which are its own", WITH_REGISTERS).due(call, 2)
                .due("told(2, 0)", 6).due("told(2, 1)", 2)
                .due("stepOf(2, 0, 0, 0, 0)", 1).due("stepOf(2, 0, 0, 0, 1)", 1)
                .due("stepOf(2, 0, 0, 1, 0)", 2).due("stepOf(2, 0, 0, 1, 1)", 0)
                .due("stepOf(2, 0, 0, 2, 0)", 3).due("stepOf(2, 0, 0, 2, 1)", NONE)
                .due("stepOf(2, 0, 1, 2, 0)", 0).due("stepOf(2, 0, 1, 2, 1)", 1);
        }
        Edge.of(13, "with one REGISTER there is no CASE 1").given("machine(2, 0)", "machine(2, 1)")
            .given("step(1, 0, 0, 0, 1, 0)", "both(1, 0, 0)").due("told(2, 1)", 1).due("told(2, 0)", 2)
            .refused("stepOf(2, 0, 0, 1, 0)", BAD).due("stepOf(2, 0, 0, 0, 0)", 1).due("stepOf(2, 0, 0, 0, 1)", 0)
            .given("both(0, 1, 0)").due("told(3, 1)", 1).due("stepOf(3, 0, 0, 0, 0)", 1).due("stepOf(3, 0, 0, 0, 1)", 0);
        Edge.of(13, "both without any go by CASE 2").given("machine(1, 0)", "machine(1, 0)", "both(0, 1, 0)")
            .due("told(2, 1)", 0).refusedFor("stepOf(2, 0, 0, *, 0)", BAD, "0", "1").due("stepOf(2, 0, 0, 2, 1)", NONE);
        Edge.of(13, "pairs that are met by a CASE that never comes are met")
            .given("machine(1, 0)", "machine(2, 1)", "step(1, 0, 2, 0, 1, NONE)").due("both(0, 1, 0)", 2)
            .due("told(2, 0)", 2).due("orbits(2, 2)", 1);
    }

    private static void bothWays() {
        // machine 0 is good behind letters 1, machine 1 behind letters 0 and 1
        String[] two = {
            "machine(2, 0)", "step(0, 0, 1, 2, 1, NONE)", "step(0, 1, 0, 2, 0, NONE)", "step(0, 1, 2, 2, 0, NONE)",
            "good(0, 1, true)", "machine(2, 0)", "step(1, 0, 2, 2, 1, NONE)", "step(1, 1, 0, 2, 0, NONE)",
            "step(1, 1, 1, 2, 0, NONE)", "good(1, 0, true)", "place(0, 1)", "place(1, 1)", "place(2, 1)"
        };
        int[][] takes = {{0, 0, 1, 0}, {1, 1, 1, 0}, {1, 1, 0, 0}};
        for (int way = 0; way < 3; way++) {
            Edge edge = Edge.of(13, "way " + way, two).due("both(0, 1, " + way + ")", 2);
            for (int n = 0; n < 4; n++) {
                edge.due("takes(2, " + n + ")", takes[way][n]);
            }
        }
        Edge.of(13, "a MACHINE with itself", two).due("both(0, 0, 0)", 2).due("parts(0, 2)", NONE)
            .due("both(0, 0, 1)", 3).due("parts(0, 3)", NONE).due("both(0, 0, 2)", 4).due("shortest(4)", NONE);
    }
}
