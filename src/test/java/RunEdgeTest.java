/** The boundary cases that promises 14 to 16 name: takes, ran, doomed. */
public final class RunEdgeTest {
    private static final int BAD = -1, NONE = -4;
    private static final String[] NO_MACHINE = {"-1", "5", "6", "NONE", "MIN", "MAX"};
    /** Keeps names by letter 0 in register 0, by letter 1 in register 1, whatever the case. */
    private static final String[] KEEPER = {
        "machine(1, 2)", "step(0, 0, 0, 0, 0, 0)", "step(0, 0, 0, 1, 0, 0)", "step(0, 0, 0, 2, 0, 0)",
        "step(0, 0, 1, 0, 0, 1)", "step(0, 0, 1, 1, 0, 1)", "step(0, 0, 1, 2, 0, 1)"
    };

    public static void main(String[] args) {
        takes();
        ranRefused();
        ranState();
        ranKept();
        ranCase();
        doomed();
        doomedFirst();
        Due.end();
    }

    private static void takes() {
        Edge.of(14, "BAD: there is no such MACHINE", Setting.BUSY).refusedFor("takes(*, 0)", BAD, NO_MACHINE);
        Edge.of(14, "BAD: n is below 0 or above what THE ROW has", Setting.BUSY)
            .refusedFor("takes(0, *)", BAD, "-1", "5", "40", "NONE", "MIN", "MAX").due("takes(0, 4)", 1);
        Edge.of(14, "BAD: THE ROW has no PLACES").given("machine(1, 0)").refusedFor("takes(0, *)", BAD, "-1", "1")
            .due("takes(0, 0)", 0).given("good(0, 0, true)").due("takes(0, 0)", 1);
        Edge.of(14, "the first n PLACES, from none to all", Setting.BUSY).due("takes(0, 0)", 0).due("takes(0, 1)", 1)
            .due("takes(0, 2)", 0).due("takes(0, 3)", 0).due("takes(0, 4)", 1);
        Edge.of(14, "40 PLACES", Setting.ROW).due("takes(0, 40)", 0).due("takes(0, 38)", 1).refused("takes(0, 41)", BAD);
        Edge.of(14, "BAD: PLACES that were cut off", Setting.BUSY).given("cut(2)").refused("takes(0, 3)", BAD)
            .due("takes(0, 2)", 0).due("takes(0, 1)", 1);
    }

    private static void ranRefused() {
        Edge.of(15, "BAD: there is no such MACHINE", Setting.BUSY).refusedFor("ran(*, 0, 0)", BAD, NO_MACHINE);
        Edge.of(15, "BAD: n is below 0 or above what THE ROW has", Setting.BUSY)
            .refusedFor("ran(0, *, 0)", BAD, "-1", "5", "40", "NONE", "MIN", "MAX")
            .refusedFor("ran(0, *, 3)", BAD, "-1", "5").due("ran(0, 4, 0)", 1);
        Edge.of(15, "BAD: what is 0 to 3", Setting.BUSY)
            .refusedFor("ran(0, 2, *)", BAD, "-1", "4", "NONE", "MIN", "MAX").refused("ran(0, 0, 4)", BAD);
        Edge.of(15, "BAD: THE ROW has no PLACES").given("machine(1, 2)").refusedFor("ran(0, 1, *)", BAD, "0", "1", "2", "3");
    }

    private static void ranState() {
        Edge.of(15, "a MACHINE begins in STATE 0, its REGISTERS empty", KEEPER).given("place(0, 1)")
            .due("ran(0, 0, 0)", 0).due("ran(0, 0, 1)", NONE).due("ran(0, 0, 2)", NONE);
        Edge.of(15, "each run begins anew", KEEPER).given("place(0, 1)", "place(1, 2)")
            .due("ran(0, 2, 1)", 0).due("ran(0, 2, 2)", 1).due("ran(0, 1, 2)", NONE).due("ran(0, 0, 1)", NONE);
        Edge.of(15, "behind 40 PLACES", Setting.ROW).due("ran(0, 40, 0)", 0).due("ran(0, 39, 0)", 2)
            .due("ran(0, 40, 3)", 2).refused("ran(0, 41, 0)", BAD);
    }

    private static void ranKept() {
        Edge.of(15, "NONE: a REGISTER is empty", KEEPER).given("place(2, 5)").due("ran(0, 1, 1)", NONE)
            .due("ran(0, 1, 2)", NONE).given("place(1, 5)").due("ran(0, 2, 1)", NONE).due("ran(0, 2, 2)", 1);
        Edge.of(15, "NONE: there is no such REGISTER").given("machine(1, 0)", "machine(1, 1)", "step(1, 0, 0, 2, 0, 0)")
            .given("place(0, 5)").due("ran(0, 1, 1)", NONE).due("ran(0, 1, 2)", NONE).due("ran(1, 1, 1)", 0)
            .due("ran(1, 1, 2)", NONE);
        Edge.of(15, "it is kept last where it is kept once more", KEEPER).given("place(0, 5)", "place(2, 5)", "place(0, 5)")
            .due("ran(0, 1, 1)", 0).due("ran(0, 2, 1)", 0).due("ran(0, 3, 1)", 2).given("place(0, 6)")
            .due("ran(0, 4, 1)", 3);
        Edge.of(15, "each REGISTER for itself, also with the same NAME", KEEPER).given("place(0, 5)", "place(1, 5)")
            .due("ran(0, 2, 1)", 0).due("ran(0, 2, 2)", 1).given("place(0, 5)").due("ran(0, 3, 1)", 2).due("ran(0, 3, 2)", 1);
        Edge.of(15, "at the last PLACE of a FULL ROW", KEEPER).given(Setting.places(40)).due("ran(0, 40, 1)", 39)
            .due("ran(0, 40, 2)", 37);
    }

    private static void ranCase() {
        Edge.of(15, "NONE: n is 0", KEEPER).due("ran(0, 0, 3)", NONE).given("place(0, 5)").due("ran(0, 1, 3)", 2)
            .due("ran(0, 0, 3)", NONE);
        Edge.of(15, "CASE 0: REGISTER 0 has it, else 1, else 2", KEEPER)
            .given("place(0, 5)", "place(1, 6)", "place(2, 5)", "place(2, 6)", "place(2, 7)")
            .due("ran(0, 3, 3)", 0).due("ran(0, 4, 3)", 1).due("ran(0, 5, 3)", 2);
        Edge.of(15, "CASE 0, if both REGISTERS have it", KEEPER).given("place(0, 5)", "place(1, 5)", "place(2, 5)")
            .due("ran(0, 2, 3)", 0).due("ran(0, 3, 3)", 0).due("ran(0, 3, 2)", 1);
        Edge.of(15, "an empty REGISTER has no NAME, 0 and -4 neither", KEEPER)
            .given("place(2, 0)", "place(2, -4)", "place(2, -1)").due("ran(0, 1, 3)", 2).due("ran(0, 2, 3)", 2)
            .due("ran(0, 3, 3)", 2).given("cut(0)", "place(1, 0)", "place(2, 0)").due("ran(0, 1, 3)", 2)
            .due("ran(0, 2, 3)", 1);
        Edge.of(15, "the widest NAMES", KEEPER).given("place(0, MIN)", "place(1, MAX)", "place(2, MIN)", "place(2, MAX)")
            .due("ran(0, 2, 3)", 2).due("ran(0, 3, 3)", 0).due("ran(0, 4, 3)", 1);
        Edge.of(15, "a NAME that was kept and lost is in none", KEEPER).given("place(0, 5)", "place(0, 6)", "place(2, 5)")
            .due("ran(0, 3, 3)", 2);
    }

    private static void doomed() {
        Edge.of(16, "BAD: there is no such MACHINE", Setting.BUSY).refusedFor("doomed(*)", BAD, NO_MACHINE);
        Edge.of(16, "NONE: all of it does not", Setting.BUSY).refusedFor("doomed(*)", NONE, "0", "1", "2", "4")
            .due("doomed(3)", 0);
        Edge.of(16, "NONE: a ROW of no PLACES").given("machine(2, 0)", "good(0, 1, true)", "step(0, 0, 2, 2, 1, NONE)")
            .refused("doomed(0)", NONE);
        Edge.of(16, "0: no PLACES at all").given("machine(2, 0)", "good(0, 1, true)").due("doomed(0)", 0)
            .given("place(0, 0)").due("doomed(0)", 0);
        Edge.of(16, "a STATE that is GOOD is not DOOMED").given("machine(1, 0)", "good(0, 0, true)", "place(0, 0)")
            .due("doomed(0)", NONE);
        Edge.of(16, "a STATE to which a GOOD one does not come back is DOOMED, the GOOD one is not")
            .given("machine(2, 0)", "good(0, 0, true)", "step(0, 0, 1, 2, 1, NONE)", "place(0, 1)", "place(1, 1)")
            .due("doomed(0)", 2).given("step(0, 1, 2, 2, 0, NONE)").due("doomed(0)", NONE);
        Edge.of(16, "not DOOMED: a GOOD STATE can come by way of one that was met before")
            .given("machine(4, 0)", "step(0, 0, 0, 2, 1, NONE)", "step(0, 1, 0, 2, 2, NONE)", "good(0, 2, true)")
            .given("step(0, 0, 1, 2, 3, NONE)", "step(0, 3, 2, 2, 1, NONE)", "place(1, 0)").due("doomed(0)", NONE)
            .given("step(0, 3, 2, 2, 3, NONE)").due("doomed(0)", 1);
        Edge.of(16, "not DOOMED: the only way on is by LETTER 0 and the NAME in REGISTER 0")
            .given("machine(3, 1)", "step(0, 0, 1, 2, 1, 0)", "step(0, 1, 0, 0, 2, NONE)", "good(0, 2, true)", "place(1, 5)")
            .due("doomed(0)", NONE).given("step(0, 0, 1, 2, 1, NONE)").due("doomed(0)", 0);
    }

    private static void doomedFirst() {
        String[] sink = {"machine(2, 0)", "good(0, 0, true)", "step(0, 0, 1, 2, 1, NONE)"};
        Edge.of(16, "how few: the first such PLACE, and none before it", sink)
            .given("place(0, 0)", "place(1, 0)", "place(0, 0)", "place(1, 0)").due("doomed(0)", 2)
            .given("cut(2)").due("doomed(0)", 2).given("cut(1)").due("doomed(0)", NONE);
        Edge last = Edge.of(16, "all of a FULL ROW", sink);
        for (int i = 0; i < 39; i++) {
            last.given("place(0, 0)");
        }
        last.due("doomed(0)", NONE).given("place(1, 0)").due("doomed(0)", 40);
        // from state 1 only register 1 alone leads on: not if both registers have the same name
        String[] names = {
            "machine(2, 2)", "good(0, 0, true)", "step(0, 0, 0, 2, 0, 0)", "step(0, 0, 1, 2, 1, 1)",
            "step(0, 0, 1, 0, 1, 1)", "step(0, 1, 2, 1, 0, NONE)"
        };
        Edge.of(16, "an ORBIT tells whether both have the same NAME", names).given("place(0, 5)", "place(1, 6)")
            .due("doomed(0)", NONE).given("cut(1)", "place(1, 5)").due("doomed(0)", 2);
        Edge.of(16, "an ORBIT tells which REGISTERS are empty", names).given("place(1, 5)").due("doomed(0)", NONE)
            .given("step(0, 1, 2, 1, 1, NONE)", "step(0, 1, 2, 0, 0, NONE)").due("doomed(0)", 1)
            .given("cut(0)", "place(0, 6)", "place(1, 5)").due("doomed(0)", NONE);
    }
}
