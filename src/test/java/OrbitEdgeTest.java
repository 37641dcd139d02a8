import java.lang.reflect.Field;
import java.util.ArrayList;
import java.util.Arrays;
import java.util.List;

/** The boundary cases that promises 17 to 23 name: orbits, shortest, shortestAt, parts, partsAt, within, show. */
public final class OrbitEdgeTest {
    private static final int BAD = -1, FULL = -3, NONE = -4;
    private static final String[] NO_MACHINE = {"-1", "5", "6", "NONE", "MIN", "MAX"};
    /** Machine 0 takes the row of letter 2, then letter 1 with the same name; machine 1 takes none. */
    private static final String[] TWICE = {
        "machine(3, 1)", "step(0, 0, 2, 2, 1, 0)", "step(0, 1, 1, 0, 2, NONE)", "good(0, 2, true)", "machine(1, 0)"
    };

    /**
     * State, letter, case, next state, kept: two machines of these steps, of which the second one keeps
     * nothing by the third last step, part at 40 places. A wide search found no two that part later.
     */
    private static final int[][] LATE = {
        {0, 0, 0, 1, NONE}, {0, 0, 1, 1, NONE}, {0, 0, 2, 1, NONE}, {0, 1, 0, 1, NONE}, {0, 1, 1, 1, NONE},
        {0, 1, 2, 1, NONE}, {0, 2, 0, 1, NONE}, {0, 2, 1, 1, NONE}, {0, 2, 2, 1, NONE}, {1, 0, 0, 0, NONE},
        {1, 0, 1, 0, NONE}, {1, 0, 2, 0, NONE}, {1, 1, 0, 3, NONE}, {1, 1, 1, 3, NONE}, {1, 1, 2, 3, NONE},
        {2, 0, 0, 5, NONE}, {2, 0, 1, 5, NONE}, {2, 0, 2, 5, NONE}, {2, 1, 0, 1, NONE}, {2, 1, 1, 1, NONE},
        {2, 1, 2, 1, NONE}, {3, 1, 0, 4, NONE}, {3, 1, 1, 4, NONE}, {3, 1, 2, 4, NONE}, {4, 2, 0, 2, NONE},
        {4, 2, 1, 2, NONE}, {4, 2, 2, 2, NONE}, {5, 0, 0, 2, NONE}, {5, 1, 0, 1, NONE}, {5, 1, 1, 1, NONE},
        {5, 1, 2, 1, NONE}, {5, 2, 0, 0, 1}, {5, 2, 1, 0, 0}, {5, 2, 2, 0, 1}
    };

    public static void main(String[] args) throws ReflectiveOperationException {
        orbits();
        orbitsMet();
        shortest();
        shortestAt();
        parts();
        partsAt();
        within();
        show();
        showRow();
        showLongest();
        showFull();
        Due.end();
    }

    private static void orbits() {
        Edge.of(17, "BAD: there is no such MACHINE", Setting.BUSY).refusedFor("orbits(*, 0)", BAD, NO_MACHINE);
        Edge.of(17, "BAD: what is 0 to 2", Setting.BUSY).refusedFor("orbits(2, *)", BAD, "-1", "3", "NONE", "MIN", "MAX");
        Edge.of(17, "the ROW of no PLACES leads to one").given("machine(6, 2)").due("orbits(0, 0)", 1)
            .due("orbits(0, 1)", 1).due("orbits(0, 2)", 1).given("good(0, 0, true)").due("orbits(0, 0)", 1)
            .due("orbits(0, 1)", 0).due("orbits(0, 2)", 1);
        Edge all = Edge.of(17, "5 of each of 6 STATES").given("machine(6, 2)");
        for (int at = 0; at < 18; at++) {
            String from = at / 3 + ", ";
            all.given("step(0, " + from + "0, " + at % 3 + ", " + at / 3 + ", 0)",
                "step(0, " + from + "1, " + at % 3 + ", " + at / 3 + ", 1)",
                "step(0, " + from + "2, " + at % 3 + ", " + (at / 3 + 1) % 6 + ", NONE)");
        }
        all.due("orbits(0, 0)", 30).due("orbits(0, 1)", 30).due("orbits(0, 2)", 6).given("good(0, 5, true)")
            .due("orbits(0, 0)", 30).due("orbits(0, 1)", 0).due("orbits(0, 2)", 6);
    }

    private static void orbitsMet() {
        Edge.of(17, "STATES that are met in none do not count").given("machine(6, 0)", "step(0, 0, 1, 2, 3, NONE)")
            .given("step(0, 4, 1, 2, 5, NONE)", "good(0, 5, true)").due("orbits(0, 0)", 2).due("orbits(0, 1)", 2)
            .due("orbits(0, 2)", 2);
        Edge.of(17, "a CASE that never comes leads nowhere")
            .given("machine(3, 2)", "step(0, 0, 0, 2, 0, 0)", "step(0, 0, 1, 1, 1, NONE)", "good(0, 1, true)")
            .due("orbits(0, 0)", 2).due("orbits(0, 1)", 2).due("orbits(0, 2)", 1);
        Edge.of(17, "whether both have the same NAME: 0, 1, the same, two").given("machine(1, 2)", "good(0, 0, true)")
            .given("step(0, 0, 0, 2, 0, 0)").due("orbits(0, 0)", 2).given("step(0, 0, 1, 0, 0, 1)").due("orbits(0, 0)", 4)
            .given("step(0, 0, 0, 2, 0, NONE)", "step(0, 0, 0, 2, 0, 1)").due("orbits(0, 0)", 2);
        Edge.of(17, "DOOMED ones beside others").given("machine(3, 0)", "good(0, 1, true)", "step(0, 0, 0, 2, 1, NONE)")
            .given("step(0, 1, 0, 2, 2, NONE)").due("orbits(0, 0)", 3).due("orbits(0, 1)", 1).due("orbits(0, 2)", 3);
    }

    private static void shortest() {
        Edge.of(18, "BAD: there is no such MACHINE", Setting.BUSY).refusedFor("shortest(*)", BAD, NO_MACHINE);
        Edge.of(18, "NONE: it TAKES none", Setting.BUSY).refused("shortest(3)", NONE).due("shortest(0)", 1);
        Edge.of(18, "NONE: a GOOD STATE that is not met").given("machine(2, 1)", "good(0, 1, true)")
            .given("step(0, 0, 0, 0, 1, NONE)").refused("shortest(0)", NONE);
        Edge.of(18, "0: it TAKES the ROW of no PLACES").given("machine(1, 2)", "good(0, 0, true)").due("shortest(0)", 0);
        Edge.of(18, "through all STATES").given("machine(6, 0)", "step(0, 0, 0, 2, 1, NONE)", "step(0, 1, 1, 2, 2, NONE)")
            .given("step(0, 2, 2, 2, 3, NONE)", "step(0, 3, 0, 2, 4, NONE)", "step(0, 4, 1, 2, 5, NONE)")
            .given("good(0, 5, true)").due("shortest(0)", 5).given("step(0, 1, 2, 2, 5, NONE)").due("shortest(0)", 2);
        Edge.of(18, "from STATE 0 by LETTER 0 and CASE 0").given("machine(2, 1)", "step(0, 0, 2, 2, 0, 0)")
            .given("step(0, 0, 0, 0, 1, NONE)", "good(0, 1, true)").due("shortest(0)", 2).due("shortestAt(0, 1, 0)", 0)
            .given("machine(1, 0)").due("parts(0, 1)", 2).due("parts(1, 0)", 2);
    }

    private static void shortestAt() {
        Edge.of(19, "BAD: there is no such MACHINE", Setting.BUSY).refusedFor("shortestAt(*, 0, 0)", BAD, NO_MACHINE);
        Edge.of(19, "BAD: there is no such PLACE", TWICE)
            .refusedFor("shortestAt(0, *, 0)", BAD, "-1", "2", "NONE", "MIN", "MAX")
            .refusedFor("shortestAt(0, *, 1)", BAD, "-1", "2").due("shortestAt(0, 0, 0)", 2)
            .due("shortestAt(0, 1, 0)", 1).due("shortestAt(0, 0, 1)", 0).due("shortestAt(0, 1, 1)", 0);
        Edge.of(19, "BAD: what is 0 or 1", TWICE).refusedFor("shortestAt(0, 0, *)", BAD, "-1", "2", "NONE", "MIN", "MAX");
        Edge.of(19, "BAD: it TAKES none", TWICE).refusedFor("shortestAt(1, *, 0)", BAD, "-5", "-1", "0", "1")
            .due("shortestAt(0, 1, 0)", 1).refusedFor("shortestAt(1, *, 0)", BAD, "0", "1").due("shortestAt(0, 1, 0)", 1);
        Edge.of(19, "BAD: it TAKES the ROW of no PLACES", TWICE).given("good(0, 0, true)")
            .refusedFor("shortestAt(0, *, 0)", BAD, "-1", "0", "1");
        Edge.of(19, "its NAMES are 0, 1, .. as they come first").given("machine(4, 1)", "step(0, 0, 1, 2, 1, NONE)")
            .given("step(0, 1, 1, 2, 2, 0)", "step(0, 2, 0, 0, 3, NONE)", "good(0, 3, true)").due("shortest(0)", 3)
            .due("shortestAt(0, 0, 1)", 0).due("shortestAt(0, 1, 1)", 1).due("shortestAt(0, 2, 1)", 1);
        Edge.of(19, "a NAME that is held comes ahead of a new one, REGISTER 0 ahead of 1, LETTERS ahead of both")
            .given("machine(4, 2)", "step(0, 0, 0, 2, 1, 1)", "step(0, 1, 0, 2, 2, 0)", "good(0, 3, true)")
            .given("step(0, 2, 1, 2, 3, NONE)", "step(0, 2, 2, 0, 3, NONE)").due("shortestAt(0, 2, 0)", 1)
            .due("shortestAt(0, 2, 1)", 2).given("step(0, 2, 1, 1, 3, NONE)").due("shortestAt(0, 2, 1)", 0)
            .given("step(0, 2, 1, 0, 3, NONE)").due("shortestAt(0, 2, 1)", 1)
            .given("step(0, 2, 0, 2, 3, NONE)").due("shortestAt(0, 2, 0)", 0).due("shortestAt(0, 2, 1)", 2);
    }

    private static void parts() {
        Edge.of(20, "BAD: there is no such first MACHINE", Setting.BUSY).refusedFor("parts(*, 0)", BAD, NO_MACHINE);
        Edge.of(20, "BAD: there is no such second MACHINE", Setting.BUSY).refusedFor("parts(0, *)", BAD, NO_MACHINE);
        Edge.of(20, "NONE: they are SAME", Setting.BUSY).refusedFor("parts(*, *)", NONE, "0", "1", "2", "3", "4");
        Edge.of(20, "NONE: also behind an answer that was not", TWICE).due("parts(0, 1)", 2).refused("parts(0, 0)", NONE)
            .due("parts(0, 0)", NONE).due("parts(0, 1)", 2);
        Edge.of(20, "NONE: SAME, but not built alike").given("machine(1, 0)", "good(0, 0, true)")
            .given("machine(3, 2)", "step(1, 0, 0, 2, 1, 0)", "step(1, 1, 1, 0, 0, 1)", "good(1, 0, true)", "good(1, 1, true)")
            .refused("parts(0, 1)", NONE).refused("parts(1, 0)", NONE);
        Edge.of(20, "0: the ROW of no PLACES").given("machine(1, 0)", "machine(1, 2)", "good(1, 0, true)")
            .due("parts(0, 1)", 0).due("parts(1, 0)", 0);
        // with names x, y (machine 0) and z (machine 1): the one takes x, y behind them, the other one all but z;
        // as soon as two of them are alike, machine 0 takes all but z as well
        Edge.of(20, "a NAME that did not come yet, beside three that are held")
            .given("machine(6, 2)", "good(0, 0, true)", "step(0, 0, 0, 2, 1, 0)", "step(0, 1, 0, 2, 2, 1)")
            .given("step(0, 1, 0, 0, 3, NONE)", "step(0, 2, 0, 2, 4, NONE)", "step(0, 2, 0, 0, 5, 0)", "step(0, 2, 0, 1, 5, 0)")
            .given("step(0, 3, 0, 0, 5, 0)", "step(0, 3, 0, 2, 5, 0)", "step(0, 4, 1, 0, 0, NONE)", "step(0, 4, 1, 1, 0, NONE)")
            .given("step(0, 5, 1, 1, 0, NONE)", "step(0, 5, 1, 2, 0, NONE)")
            .given("machine(4, 1)", "good(1, 0, true)", "step(1, 0, 0, 2, 1, NONE)", "step(1, 1, 0, 2, 2, NONE)")
            .given("step(1, 2, 0, 2, 3, 0)", "step(1, 3, 1, 2, 0, NONE)").due("parts(0, 1)", 4).due("partsAt(0, 1, 3, 0)", 1)
            .due("partsAt(0, 1, 2, 1)", 2).due("partsAt(0, 1, 3, 1)", 3).due("parts(1, 0)", 4).due("partsAt(1, 0, 3, 1)", 3);
        Edge.of(20, "whichever of the two TAKES it", TWICE).due("parts(0, 1)", 2).due("parts(1, 0)", 2);
    }

    private static void partsAt() {
        Edge.of(21, "BAD: there is no such first MACHINE", Setting.BUSY).refusedFor("partsAt(*, 0, 0, 0)", BAD, NO_MACHINE);
        Edge.of(21, "BAD: there is no such second MACHINE", Setting.BUSY).refusedFor("partsAt(0, *, 0, 0)", BAD, NO_MACHINE);
        Edge.of(21, "BAD: there is no such PLACE", TWICE)
            .refusedFor("partsAt(0, 1, *, 0)", BAD, "-1", "2", "NONE", "MIN", "MAX")
            .refusedFor("partsAt(1, 0, *, 1)", BAD, "-1", "2").due("partsAt(0, 1, 0, 0)", 2)
            .due("partsAt(1, 0, 1, 0)", 1).due("partsAt(0, 1, 0, 1)", 0).due("partsAt(1, 0, 1, 1)", 0);
        Edge.of(21, "BAD: what is 0 or 1", TWICE).refusedFor("partsAt(0, 1, 0, *)", BAD, "-1", "2", "NONE", "MIN", "MAX");
        Edge.of(21, "BAD: they are SAME", TWICE).refusedFor("partsAt(0, 0, *, 0)", BAD, "-5", "-1", "0", "1");
        Edge.of(21, "BAD: the ROW of no PLACES parts them", TWICE).given("good(1, 0, true)")
            .refusedFor("partsAt(0, 1, *, 0)", BAD, "-1", "0", "1");
        Edge.of(21, "each least row has NAMES of its own", TWICE)
            .given("machine(4, 1)", "step(2, 0, 0, 2, 1, NONE)", "step(2, 1, 0, 2, 2, 0)", "step(2, 2, 1, 0, 3, NONE)")
            .given("good(2, 3, true)").due("partsAt(1, 0, 1, 1)", 0).due("partsAt(1, 2, 0, 1)", 0)
            .due("partsAt(1, 2, 1, 1)", 1).due("partsAt(1, 2, 2, 1)", 1).due("partsAt(2, 1, 2, 1)", 1);
        // both want a name again: machine 0 the first one, machine 1 the one before
        Edge.of(21, "the first one's REGISTERS ahead of the second one's")
            .given("machine(3, 1)", "step(0, 0, 0, 2, 1, 0)", "step(0, 1, 0, 0, 2, NONE)", "good(0, 2, true)")
            .given("turned(0)", "good(1, 0, false)", "good(1, 1, false)", "good(1, 2, true)", "step(1, 1, 0, 2, 1, 0)")
            .due("parts(0, 1)", 3).due("partsAt(0, 1, 1, 1)", 1).due("partsAt(0, 1, 2, 1)", 0)
            .due("parts(1, 0)", 3).due("partsAt(1, 0, 1, 1)", 1).due("partsAt(1, 0, 2, 1)", 1);
    }

    private static void within() {
        Edge.of(22, "BAD: there is no such first MACHINE", Setting.BUSY).refusedFor("within(*, 0)", BAD, NO_MACHINE);
        Edge.of(22, "BAD: there is no such second MACHINE", Setting.BUSY).refusedFor("within(0, *)", BAD, NO_MACHINE);
        Edge.of(22, "each is WITHIN itself", Setting.BUSY).due("within(0, 0)", 1).due("within(2, 2)", 1).due("within(3, 3)", 1);
        Edge.of(22, "no ROWS are WITHIN all, all are WITHIN all alone", TWICE).given("turned(1)")
            .due("within(1, 0)", 1).due("within(1, 2)", 1).due("within(0, 2)", 1).due("within(2, 2)", 1)
            .due("within(0, 1)", 0).due("within(2, 0)", 0).due("within(2, 1)", 0);
        Edge.of(22, "neither of two", TWICE).given("turned(0)").due("within(0, 2)", 0).due("within(2, 0)", 0);
    }

    private static void show() {
        Edge.of(23, "BAD: there is no such first MACHINE", Setting.BUSY)
            .refusedFor("show(*, 0)", BAD, NO_MACHINE).refusedFor("show(*, NONE)", BAD, NO_MACHINE);
        Edge.of(23, "BAD: there is no such second MACHINE", Setting.BUSY)
            .refusedFor("show(0, *)", BAD, "-1", "-2", "-3", "-5", "5", "6", "MIN", "MAX");
        Edge.of(23, "NONE: they are SAME", Setting.BUSY).refusedFor("show(*, *)", NONE, "0", "3");
        Edge.of(23, "NONE: a TAKES none", Setting.BUSY).refused("show(3, NONE)", NONE);
        Edge.of(23, "THE ROW of no PLACES", Setting.BUSY).due("show(2, NONE)", 0).due("count(0)", 0)
            .given("place(0, 1)").due("show(2, 0)", 0).due("count(0)", 0).due("place(0, 1)", 1);
    }

    private static void showRow() {
        Edge.of(23, "it becomes THE ROW: a longer one", TWICE).given("place(1, 9)").due("show(0, NONE)", 2)
            .due("count(0)", 2).due("takes(0, 2)", 1).due("first(1)", 0).due("place(0, 0)", 3).due("first(2)", 0);
        Edge.of(23, "it becomes THE ROW: a shorter one", TWICE).given(Setting.places(40)).due("show(1, 0)", 2)
            .due("count(0)", 2).due("takes(0, 2)", 1).due("names()", 1).refused("first(2)", BAD).due("place(2, 1)", 3);
        Edge.of(23, "what is told of a least row is not of THE ROW", TWICE).given("show(0, NONE)", "cut(0)", "place(0, 7)")
            .due("shortestAt(0, 0, 0)", 2).due("partsAt(0, 1, 1, 0)", 1).due("count(0)", 1);
    }

    private static String[] late() {
        List<String> calls = new ArrayList<>();
        for (int m = 0; m < 2; m++) {
            calls.addAll(List.of("machine(6, 2)", "good(" + m + ", 4, true)"));
            for (int[] step : LATE) {
                calls.add("step(" + m + Arrays.toString(step).replace('[', ',').replace(']', ')'));
            }
        }
        calls.add("step(1, 5, 2, 0, 0, NONE)");
        return calls.toArray(new String[0]);
    }

    private static void showLongest() {
        Edge.of(23, "40 PLACES are not too many", late()).due("parts(0, 1)", 40).due("parts(1, 0)", 40)
            .refused("partsAt(0, 1, 40, 0)", BAD).due("show(0, 1)", 40).due("count(0)", 40).refused("place(0, 0)", FULL)
            .given("cut(39)").due("show(1, 0)", 40);
        Asked x = new Asked();
        for (String call : late()) {
            x.call(call);
        }
        x.call("show(0, 1)");
        for (int n = 0; n <= 40; n++) {
            boolean parted = x.call("takes(0, " + n + ")") != x.call("takes(1, " + n + ")");
            Due.due("promise 23, 40 PLACES are not too many: parted behind " + n, parted ? 1 : 0, n == 40 ? 1 : 0);
        }
    }

    /** No machines are known that part at more than 40 places, so the object is told that it found such a row. */
    private static void showFull() throws ReflectiveOperationException {
        NameRows x = new NameRows();
        x.machine(1, 0);
        x.machine(2, 0);
        x.good(1, 1, true);
        x.step(1, 0, 2, 2, 1, NONE);
        x.place(1, 7);
        x.place(0, 7);
        String sentence = "promise 23, more than 40 PLACES: FULL: ";
        Due.due(sentence + "parts(0, 1)", x.parts(0, 1), 1);
        Field least = inside(x, "least");
        inside(least.get(x), "length").setInt(least.get(x), 41);
        inside(x, "leastAnswer").setInt(x, 41);
        Due.due(sentence + "parts(0, 1) of 41", x.parts(0, 1), 41);
        Due.due(sentence + "show(0, 1)", x.show(0, 1), FULL);
        Due.due(sentence + "THE ROW stays", x.count(0), 2);
        Due.due(sentence + "its NAMES stay", x.first(1), 0);
        Due.due(sentence + "its LETTERS stay", x.place(2, 7) == 3 && x.takes(1, 2) == 0 && x.takes(1, 3) == 1 ? 1 : 0, 1);
    }

    private static Field inside(Object owner, String name) throws ReflectiveOperationException {
        Field field = owner.getClass().getDeclaredField(name);
        field.setAccessible(true);
        return field;
    }
}
