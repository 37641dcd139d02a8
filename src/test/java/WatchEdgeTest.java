/** The boundary cases that promises 24 to 26 name: watch, see, seen. */
public final class WatchEdgeTest {
    private static final int BAD = -1, FULL = -3, NONE = -4, DONE = -5;
    /** Machine 0 is good at first and behind letter 0, not behind letter 1, and doomed behind letter 2. */
    private static final String[] WATCHED = {
        "machine(3, 0)", "good(0, 0, true)", "step(0, 0, 1, 2, 1, NONE)", "step(0, 1, 0, 2, 0, NONE)",
        "step(0, 0, 2, 2, 2, NONE)", "step(0, 1, 2, 2, 2, NONE)", "watch(0)"
    };

    public static void main(String[] args) {
        watch();
        seeRefused();
        see();
        seeDone();
        seeNames();
        seen();
        seenDone();
        Due.end();
    }

    private static void watch() {
        Edge.of(24, "BAD: there is no such MACHINE", Setting.BUSY)
            .refusedFor("watch(*)", BAD, "-1", "5", "6", "NONE", "MIN", "MAX").due("watch(4)", 3);
        Edge.of(24, "FULL: there are 4 WATCHES", Setting.WATCHES).refusedFor("watch(*)", FULL, "0", "1", "2")
            .due("count(2)", 4);
        Edge.of(24, "BAD comes ahead of FULL", Setting.WATCHES).refusedFor("watch(*)", BAD, "-1", "3");
        Edge.of(24, "they are numbered as they come, more than one of a MACHINE").given("machine(1, 0)", "machine(1, 0)")
            .due("watch(1)", 0).due("watch(0)", 1).due("watch(1)", 2).due("watch(1)", 3).refused("watch(0)", FULL);
        Edge.of(24, "a MACHINE is not watched because FULL was answered", Setting.WATCHES).refused("watch(2)", FULL)
            .due("good(2, 0, true)", 0).due("drop()", 2);
    }

    private static void seeRefused() {
        Edge.of(25, "BAD: there is no such WATCH", Setting.BUSY)
            .refusedFor("see(*, 0, 0)", BAD, "-1", "3", "4", "NONE", "MIN", "MAX");
        Edge.of(25, "BAD: a fifth WATCH", Setting.WATCHES).refused("see(4, 0, 0)", BAD).due("see(3, 1, 0)", 1);
        Edge.of(25, "BAD: there is no such LETTER", Setting.BUSY)
            .refusedFor("see(0, *, 0)", BAD, "-1", "3", "NONE", "MIN", "MAX").due("seen(0, 0)", 2);
        Edge.of(25, "BAD comes ahead of -5", Setting.BUSY).refusedFor("see(1, *, 0)", BAD, "-1", "3")
            .refusedFor("see(2, *, 0)", BAD, "-1", "3");
    }

    private static void see() {
        Edge.of(25, "1 its STATE is GOOD then, 0 not", WATCHED).due("see(0, 0, 5)", 1).due("see(0, 1, 5)", 0)
            .due("see(0, 1, 5)", 0).due("see(0, 0, 5)", 1).due("seen(0, 0)", 4).due("seen(0, 2)", 2);
        Edge.of(25, "a stream is not THE ROW, nor another stream", WATCHED).given("place(1, 7)", "watch(0)")
            .due("see(0, 1, 5)", 0).due("count(0)", 1).due("seen(1, 0)", 0).due("seen(1, 1)", 0)
            .due("see(1, 0, 5)", 1).due("seen(0, 1)", 1).due("cut(0)", 1).due("seen(0, 0)", 1);
        Edge many = Edge.of(25, "as many PLACES as come", WATCHED);
        for (int i = 1; i <= 490; i++) {
            many.due("see(0, " + i % 2 + ", " + i + ")", 1 - i % 2);
        }
        many.due("seen(0, 0)", 490).due("seen(0, 2)", 245).due("see(0, 2, 0)", DONE).due("seen(0, 3)", 491);
    }

    private static void seeDone() {
        Edge.of(25, "-5: it is DONE for by this PLACE", WATCHED).due("see(0, 0, 5)", 1).due("see(0, 2, 5)", DONE)
            .due("seen(0, 0)", 2).due("seen(0, 1)", 2).due("seen(0, 2)", 1).due("seen(0, 3)", 2);
        Edge.of(25, "-5: it is DONE for already, then none comes any more", WATCHED).given("see(0, 2, 5)")
            .refusedFor("see(0, *, 5)", DONE, "0", "1", "2").due("seen(0, 0)", 1).due("count(3)", 1);
        Edge.of(25, "-5: it is DONE for as it began").given("machine(2, 1)", "good(0, 1, true)", "watch(0)")
            .refusedFor("see(0, *, 5)", DONE, "0", "1", "2").due("seen(0, 0)", 0);
        Edge.of(25, "0, not -5: a GOOD STATE can come yet", WATCHED).due("see(0, 1, 5)", 0).due("count(3)", 0)
            .due("see(0, 0, 5)", 1);
        Edge.of(25, "another WATCH of the MACHINE goes on", WATCHED).given("watch(0)").due("see(0, 2, 5)", DONE)
            .due("see(1, 0, 5)", 1).due("count(3)", 1);
    }

    private static void seeNames() {
        // good while the latest name is the first one
        Edge.of(25, "a NAME is any int").given("machine(2, 1)", "step(0, 0, 0, 2, 1, 0)", "step(0, 1, 1, 0, 0, NONE)")
            .given("good(0, 1, true)", "step(0, 0, 1, 0, 1, NONE)", "watch(0)", "watch(0)", "watch(0)")
            .due("see(0, 0, MIN)", 1).due("see(0, 1, MAX)", 1).due("see(0, 1, MIN)", 0).due("see(0, 1, MIN)", 1)
            .due("see(1, 1, 0)", 0).due("see(1, 1, -4)", 0).due("see(1, 0, 0)", 1).due("see(1, 1, 0)", 0)
            .due("see(2, 0, MAX)", 1).due("see(2, 1, MIN)", 1).due("see(2, 1, MAX)", 0);
        // state 1 leads on by register 1 alone: it is doomed if both registers have the same name
        String[] names = {
            "machine(2, 2)", "good(0, 0, true)", "step(0, 0, 0, 2, 0, 0)", "step(0, 0, 1, 2, 1, 1)",
            "step(0, 0, 1, 0, 1, 1)", "step(0, 1, 2, 1, 0, NONE)", "watch(0)", "see(0, 0, 5)"
        };
        Edge.of(25, "DOOMED is an ORBIT, not a STATE", names).due("see(0, 1, 6)", 0).due("see(0, 2, 6)", 1);
        Edge.of(25, "DOOMED is an ORBIT, not a STATE: the same NAME", names).due("see(0, 1, 5)", DONE).due("seen(0, 1)", 1);
    }

    private static void seen() {
        Edge.of(26, "BAD: there is no such WATCH", Setting.BUSY)
            .refusedFor("seen(*, 0)", BAD, "-1", "3", "4", "NONE", "MIN", "MAX");
        Edge.of(26, "BAD: a fifth WATCH", Setting.WATCHES).refused("seen(4, 0)", BAD).due("seen(3, 0)", 1);
        Edge.of(26, "BAD: what is 0 to 3", Setting.BUSY)
            .refusedFor("seen(0, *)", BAD, "-1", "4", "NONE", "MIN", "MAX").refused("seen(1, 4)", BAD);
        Edge.of(26, "as it began", WATCHED).due("seen(0, 0)", 0).due("seen(0, 1)", 0).due("seen(0, 2)", 0)
            .due("seen(0, 3)", NONE);
        Edge.of(26, "how often it was GOOD behind one, not as it began", WATCHED).due("see(0, 1, 0)", 0)
            .due("seen(0, 2)", 0).due("see(0, 0, 0)", 1).due("seen(0, 2)", 1).due("see(0, 0, 0)", 1).due("seen(0, 2)", 2);
        Edge.of(26, "a PLACE that was refused did not come", WATCHED).due("see(0, 3, 0)", BAD).due("seen(0, 0)", 0);
    }

    private static void seenDone() {
        Edge.of(26, "NONE: it is not DONE for", WATCHED).due("see(0, 1, 0)", 0).due("seen(0, 3)", NONE);
        Edge.of(26, "at which PLACE, from 1 on", WATCHED).due("see(0, 2, 0)", DONE).due("seen(0, 3)", 1)
            .due("seen(0, 0)", 1).due("see(0, 0, 0)", DONE).due("seen(0, 3)", 1).due("seen(0, 0)", 1)
            .due("seen(0, 1)", 2).due("seen(0, 2)", 0);
        Edge.of(26, "0: as it began").given("machine(1, 2)", "watch(0)").due("seen(0, 3)", 0).due("seen(0, 0)", 0)
            .due("see(0, 0, 0)", DONE).due("seen(0, 3)", 0).due("seen(0, 0)", 0).due("seen(0, 1)", 0);
    }
}
