import java.util.ArrayList;
import java.util.List;

/** Calls that bring an object to where a boundary case can be met; see Edge. */
final class Setting {
    /** A machine that is in state 0, 1, 2 behind letter 0, 1, 2; it takes rows that end in letter 1. */
    private static final String[] READER = {
        "machine(3, 0)", "step(0, 0, 1, 2, 1, NONE)", "step(0, 0, 2, 2, 2, NONE)", "step(0, 1, 0, 2, 0, NONE)",
        "step(0, 1, 2, 2, 2, NONE)", "step(0, 2, 0, 2, 0, NONE)", "step(0, 2, 1, 2, 1, NONE)", "good(0, 1, true)"
    };

    /**
     * Something of all: a row of 4 places; machine 0 reads letters, 1 has one register, 2 (watched twice)
     * has two and is doomed in state 1 once a name came again, 3 (watched) takes no row, 4 has a register;
     * watch 0 goes on, 1 is done for by its second place, 2 as it began; sheet 0 has ints, 1 no bytes,
     * 2 three shorts, 3 is nothing.
     */
    static final String[] BUSY = join(READER, new String[] {
        "machine(2, 1)", "step(1, 0, 0, 2, 1, 0)", "step(1, 1, 1, 0, 0, NONE)", "good(1, 1, true)",
        "machine(2, 2)", "step(2, 0, 0, 2, 0, 0)", "step(2, 0, 1, 2, 0, 1)", "step(2, 0, 0, 0, 1, NONE)",
        "step(2, 0, 1, 0, 1, NONE)", "good(2, 0, true)",
        "machine(1, 0)",
        "machine(1, 1)", "step(4, 0, 2, 2, 0, 0)", "good(4, 0, true)",
        "watch(2)", "see(0, 0, 5)", "see(0, 1, 6)",
        "watch(2)", "see(1, 0, 5)", "see(1, 0, 5)",
        "watch(3)",
        "sheet(0, 2, 6)", "lay(0, 0, 2)", "lay(0, 1, 7)", "lay(0, 2, 1)", "lay(0, 3, -5)", "lay(0, 5, 8)",
        "sheet(1, 0, 0)", "sheet(2, 1, 3)", "lay(2, 0, 1)", "lay(2, 1, 6)",
        "place(1, 7)", "place(0, -5)", "place(2, 7)", "place(1, 0)"
    });

    /** Behind READER: 6 machines. */
    static final String[] MACHINES = join(READER, new String[] {
        "machine(2, 1)", "step(1, 0, 0, 2, 1, 0)", "good(1, 1, true)", "machine(1, 2)", "machine(1, 0)",
        "machine(2, 0)", "good(4, 0, true)", "machine(1, 1)"
    });

    /** 4 watches, of two machines; watch 3 saw a place. */
    static final String[] WATCHES = join(READER, new String[] {
        "machine(2, 1)", "step(1, 0, 0, 2, 1, 0)", "good(1, 1, true)", "machine(1, 0)",
        "watch(0)", "watch(1)", "watch(1)", "watch(0)", "see(3, 1, 9)"
    });

    /** A row of 40 places with 20 names. */
    static final String[] ROW = join(READER, places(40));

    private Setting() {
    }

    /** Places with letters 0, 1, 2, 0, .. and names 100, 101, .. of which each comes twice in turn. */
    static String[] places(int n) {
        String[] calls = new String[n];
        for (int i = 0; i < n; i++) {
            calls[i] = "place(" + i % 3 + ", " + (100 + i / 2) + ")";
        }
        return calls;
    }

    /** The reader of letters: machine 0 where it is made first. */
    static String[] reader() {
        return READER.clone();
    }

    static String[] join(String[]... parts) {
        List<String> all = new ArrayList<>();
        for (String[] part : parts) {
            all.addAll(List.of(part));
        }
        return all.toArray(new String[0]);
    }
}
