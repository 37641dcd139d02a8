/** Promises 24 to 26: watch, see, seen. */
public final class WatchTest {
    private static final int BAD = NameRows.BAD, NONE = NameRows.NONE, DONE = -5;

    public static void main(String[] args) {
        stream();
        ownStreams();
        longStream();
        doneFor();
        wrongOnes();
        Due.end();
    }

    private static void seenIs(NameRows x, int w, int came, int state, int good, int done) {
        int[] want = {came, state, good, done};
        for (int what = 0; what < 4; what++) {
            Due.due("seen(" + w + ", " + what + ")", x.seen(w, what), want[what]);
        }
    }

    /** Is good while the latest name is the first one; done for once letter 2 comes with another name. */
    private static int machine(NameRows x) {
        int m = x.machine(4, 1);
        x.good(m, 1, true);
        for (int letter = 0; letter < 3; letter++) {
            x.step(m, 0, letter, 2, 1, 0);
            x.step(m, 1, letter, 2, letter == 2 ? 3 : 2, NONE);
            x.step(m, 2, letter, 2, letter == 2 ? 3 : 2, NONE);
            x.step(m, 2, letter, 0, 1, NONE);
        }
        return m;
    }

    private static void stream() {
        NameRows x = new NameRows();
        machine(x);
        Due.due("watch(0)", x.watch(0), 0);
        seenIs(x, 0, 0, 0, 0, NONE);
        Due.due("see(0, 0, 7)", x.see(0, 0, 7), 1);
        seenIs(x, 0, 1, 1, 1, NONE);
        Due.due("see(0, 1, 8)", x.see(0, 1, 8), 0);
        seenIs(x, 0, 2, 2, 1, NONE);
        Due.due("see(0, 2, 7)", x.see(0, 2, 7), 1);
        seenIs(x, 0, 3, 1, 2, NONE);
        Due.due("count(3)", x.count(3), 0);
        Due.due("see(0, 2, 8)", x.see(0, 2, 8), DONE);
        seenIs(x, 0, 4, 3, 2, 4);
        Due.due("see(0, 0, 7)", x.see(0, 0, 7), DONE);
        seenIs(x, 0, 4, 3, 2, 4);
        Due.due("count(0): the row is another one", x.count(0), 0);
        Due.due("count(3)", x.count(3), 1);
    }

    private static void ownStreams() {
        NameRows x = new NameRows();
        machine(x);
        x.watch(0);
        Due.due("watch(0) once more", x.watch(0), 1);
        x.see(0, 0, 1);
        x.see(1, 0, 2);
        Due.due("see(0, 0, 1)", x.see(0, 0, 1), 1);
        Due.due("see(1, 0, 1)", x.see(1, 0, 1), 0);
        seenIs(x, 0, 2, 1, 2, NONE);
        seenIs(x, 1, 2, 2, 1, NONE);
        x.machine(1, 0);
        Due.due("watch(1)", x.watch(1), 2);
        Due.due("watch(0)", x.watch(0), 3);
        seenIs(x, 3, 0, 0, 0, NONE);
        Due.due("watch(0), one too many", x.watch(0), NameRows.FULL);
        Due.due("watch(2), one too many", x.watch(2), BAD);
        Due.due("count(2)", x.count(2), 4);
        Due.due("count(3)", x.count(3), 1);
    }

    /** A stream has no end at the 40 places of a row. */
    private static void longStream() {
        NameRows x = new NameRows();
        machine(x);
        x.watch(0);
        for (int i = 0; i < 300; i++) {
            Due.due("see " + i, x.see(0, i % 2, i % 3), i % 3 == 0 ? 1 : 0);
        }
        seenIs(x, 0, 300, 2, 100, NONE);
    }

    private static void doneFor() {
        NameRows x = new NameRows();
        x.machine(3, 2);
        Due.due("watch of one that takes none", x.watch(0), 0);
        seenIs(x, 0, 0, 0, 0, 0);
        Due.due("see(0, 0, 0)", x.see(0, 0, 0), DONE);
        seenIs(x, 0, 0, 0, 0, 0);
        Due.due("see(0, 3, 0)", x.see(0, 3, 0), BAD);
        // state 2 is doomed only if both registers have the same name
        x.machine(3, 2);
        x.good(1, 0, true);
        x.step(1, 0, 0, 2, 1, 0);
        x.step(1, 1, 0, 0, 2, 1);
        x.step(1, 1, 0, 2, 2, 1);
        x.step(1, 2, 2, 1, 0, NONE);
        x.watch(1);
        x.watch(1);
        Due.due("see(1, 0, 5)", x.see(1, 0, 5), 0);
        Due.due("see(1, 0, 6)", x.see(1, 0, 6), 0);
        Due.due("see(1, 2, 6)", x.see(1, 2, 6), 1);
        Due.due("see(2, 0, 5)", x.see(2, 0, 5), 0);
        Due.due("see(2, 0, 5)", x.see(2, 0, 5), DONE);
        seenIs(x, 1, 3, 0, 1, NONE);
        seenIs(x, 2, 2, 2, 0, 2);
        Due.due("count(3)", x.count(3), 2);
    }

    private static void wrongOnes() {
        NameRows x = new NameRows();
        Due.due("watch(0) of no machine", x.watch(0), BAD);
        Due.due("see(0, 0, 0) of no watch", x.see(0, 0, 0), BAD);
        machine(x);
        x.watch(0);
        Due.due("watch(-1)", x.watch(-1), BAD);
        Due.due("see(-1, 0, 0)", x.see(-1, 0, 0), BAD);
        Due.due("see(1, 0, 0)", x.see(1, 0, 0), BAD);
        Due.due("see(0, -1, 0)", x.see(0, -1, 0), BAD);
        Due.due("see(0, 3, 0)", x.see(0, 3, 0), BAD);
        Due.due("seen(1, 0)", x.seen(1, 0), BAD);
        Due.due("seen(-1, 0)", x.seen(-1, 0), BAD);
        Due.due("seen(0, 4)", x.seen(0, 4), BAD);
        Due.due("seen(0, -1)", x.seen(0, -1), BAD);
        seenIs(x, 0, 0, 0, 0, NONE);
    }
}
