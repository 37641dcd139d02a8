/** The boundary cases that promises 1 to 5 name: a new object, place, cut, first, names. */
public final class RowEdgeTest {
    private static final int BAD = -1, FULL = -3, NONE = -4, NULL = -11;

    public static void main(String[] args) {
        newObject();
        newObjectMachines();
        place();
        placeFull();
        cut();
        first();
        names();
        Due.end();
    }

    private static void newObject() {
        Edge.of(1, "THE ROW has no PLACES").refused("first(0)", BAD).refused("cut(1)", BAD)
            .due("count(0)", 0).due("names()", 0).due("cut(0)", 0).due("place(0, 0)", 1);
        Edge.of(1, "no WATCHES").refused("see(0, 0, 0)", BAD).refused("seen(0, 0)", BAD)
            .due("count(2)", 0).due("count(3)", 0).due("machine(1, 0)", 0).due("watch(0)", 0);
        Edge sheets = Edge.of(1, "SHEETS of nothing");
        for (int k = 0; k < 4; k++) {
            sheets.refused("lay(" + k + ", 0, 0)", NULL);
            sheets.refusedFor("scan(" + k + ", *, 0, 0)", NULL, "0", "1", "2");
        }
        Edge.of(1, "a new object has nothing of another one", Setting.BUSY);
        Edge.of(1, "a new object has nothing of another one").refused("lay(0, 0, 0)", NULL)
            .due("count(0)", 0).due("count(1)", 0).due("count(2)", 0).due("machine(3, 0)", 0)
            .due("told(0, 2)", 0).due("stepOf(0, 0, 1, 2, 0)", 0);
    }

    private static void newObjectMachines() {
        String[] calls = {
            "step(0, 0, 0, 2, 0, NONE)", "good(0, 0, true)", "told(0, 0)", "stepOf(0, 0, 0, 2, 0)", "turned(0)",
            "both(0, 0, 0)", "takes(0, 0)", "ran(0, 0, 0)", "doomed(0)", "orbits(0, 0)", "shortest(0)",
            "shortestAt(0, 0, 0)", "parts(0, 0)", "partsAt(0, 0, 0, 0)", "within(0, 0)", "show(0, 0)",
            "show(0, NONE)", "watch(0)"
        };
        Edge none = Edge.of(1, "no MACHINES");
        for (String call : calls) {
            none.refused(call, BAD);
        }
        none.refused("drop()", NONE).due("count(1)", 0).due("count(4)", 0).due("machine(1, 0)", 0);
    }

    private static void place() {
        Edge.of(2, "BAD: a LETTER is 0 to 2", Setting.BUSY).refusedFor("place(*, 7)", BAD, "-1", "3", "MIN", "MAX")
            .due("place(0, 7)", 5).due("place(1, 7)", 6).due("place(2, 7)", 7)
            .due("ran(0, 5, 0)", 0).due("ran(0, 6, 0)", 1).due("ran(0, 7, 0)", 2);
        Edge.of(2, "a NAME is any int").due("place(0, MIN)", 1).due("place(0, MAX)", 2).due("place(0, -1)", 3)
            .due("place(0, 0)", 4).due("place(0, NONE)", 5).due("names()", 5).due("place(0, MIN)", 6).due("first(5)", 0)
            .due("place(0, MAX)", 7).due("first(6)", 1);
        Edge.of(2, "it answers how many PLACES there are").due("place(2, 1)", 1).due("place(2, 1)", 2)
            .due("count(0)", 2).due("cut(1)", 2).due("place(2, 1)", 2);
    }

    private static void placeFull() {
        Edge.of(2, "FULL: a ROW has 40 PLACES", Setting.reader(), Setting.places(39)).due("place(2, 1)", 40)
            .refused("place(2, 1)", FULL).refused("place(0, 100)", FULL).due("count(0)", 40).due("ran(0, 40, 0)", 2);
        Edge.of(2, "BAD comes ahead of FULL", Setting.ROW).refusedFor("place(*, 1)", BAD, "-1", "3");
        Edge.of(2, "a ROW that was FULL has room again", Setting.ROW).refused("place(1, 1)", FULL)
            .due("cut(39)", 40).due("place(1, 1)", 40).refused("place(1, 1)", FULL);
    }

    private static void cut() {
        Edge.of(3, "BAD: n is below 0 or above what THE ROW has", Setting.BUSY)
            .refusedFor("cut(*)", BAD, "-1", "5", "40", "NONE", "MIN", "MAX").due("cut(4)", 4).due("count(0)", 4);
        Edge.of(3, "BAD: a ROW of none, a ROW of 40").refused("cut(1)", BAD).due("cut(0)", 0)
            .given(Setting.places(40)).refused("cut(41)", BAD).due("cut(40)", 40).due("cut(0)", 40).due("cut(0)", 0);
        Edge.of(3, "it keeps the first n PLACES", Setting.BUSY).due("cut(2)", 4).due("count(0)", 2)
            .due("ran(0, 1, 0)", 1).due("ran(0, 2, 0)", 0).due("first(1)", 1).refused("first(2)", BAD)
            .refused("cut(3)", BAD).due("place(2, -5)", 3).due("first(2)", 1).due("ran(0, 3, 0)", 2);
        Edge.of(3, "what was cut off is gone", Setting.BUSY).due("cut(1)", 4).due("place(0, -5)", 2)
            .due("place(0, 0)", 3).due("first(2)", 2).due("names()", 3).due("cut(0)", 3).due("names()", 0);
    }

    private static void first() {
        Edge.of(4, "BAD: there is no such PLACE", Setting.BUSY)
            .refusedFor("first(*)", BAD, "-1", "4", "40", "NONE", "MIN", "MAX").due("first(0)", 0).due("first(3)", 3);
        Edge.of(4, "BAD: THE ROW has none").refusedFor("first(*)", BAD, "-1", "0", "1");
        Edge.of(4, "the NAME came first, whatever the LETTER", Setting.BUSY).due("first(1)", 1).due("first(2)", 0);
        Edge.of(4, "up to i: what comes behind is not looked at").given("place(0, 1)", "place(0, 2)", "place(0, 1)")
            .due("first(0)", 0).due("first(1)", 1).due("first(2)", 0);
        Edge.of(4, "the last PLACE of a FULL ROW", Setting.places(38)).due("place(0, 100)", 39).due("place(0, 5)", 40)
            .due("first(38)", 0).due("first(39)", 39).due("first(37)", 36).refused("first(40)", BAD);
        Edge.of(4, "BAD: PLACES that were cut off", Setting.BUSY).given("cut(2)").refusedFor("first(*)", BAD, "2", "3");
    }

    private static void names() {
        Edge.of(5, "none in a ROW of no PLACES").due("names()", 0).given("place(1, 3)").due("names()", 1)
            .given("place(2, 3)").due("names()", 1).given("place(2, 2)").due("names()", 2);
        Edge.of(5, "as few and as many as can be", Setting.ROW).due("names()", 20);
        Edge alike = Edge.of(5, "40 NAMES alike");
        Edge unlike = Edge.of(5, "40 NAMES unlike");
        for (int i = 0; i < 40; i++) {
            alike.given("place(" + i % 3 + ", -1)");
            unlike.given("place(0, " + (i - 20) + ")");
        }
        alike.due("names()", 1);
        unlike.due("names()", 40).due("cut(39)", 40).due("names()", 39);
        Edge.of(5, "the widest NAMES are unlike").given("place(0, MIN)", "place(0, MAX)", "place(0, 0)", "place(0, -1)")
            .due("names()", 4);
    }
}
