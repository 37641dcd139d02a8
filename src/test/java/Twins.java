/** Two objects that must answer all alike: the one was asked for something that it refused. */
final class Twins {
    private final String name;
    private final Asked touched;
    private final Asked untouched;

    Twins(String name, Asked touched, Asked untouched) {
        this.name = name;
        this.touched = touched;
        this.untouched = untouched;
    }

    void compare() {
        int machines = counts();
        theRow(machines);
        for (int m = 0; m < machines; m++) {
            machine(m);
            for (int b = m + 1; b < machines; b++) {
                pair(m, b);
            }
        }
        watches();
        sheets(machines);
        changes(machines);
        moreOfEach();
    }

    /** The answer of both; unlike ones are told. */
    private int ask(String call) {
        int want = untouched.call(call);
        Due.due(name + ": " + call, touched.call(call), want);
        return want;
    }

    private int counts() {
        for (int what = 0; what <= 4; what++) {
            ask("count(" + what + ")");
        }
        ask("names()");
        return ask("count(1)");
    }

    /** Machine 0 of most settings is in another state behind each letter. */
    private void theRow(int machines) {
        int length = ask("count(0)");
        for (int i = 0; i < length; i++) {
            ask("first(" + i + ")");
            if (machines > 0) {
                ask("ran(0, " + (i + 1) + ", 0)");
            }
        }
    }

    private void machine(int m) {
        int states = ask("told(" + m + ", 0)");
        int registers = ask("told(" + m + ", 1)");
        ask("told(" + m + ", 2)");
        for (int at = 0; at < states * 9; at++) {
            if (at % 3 == 2 || at % 3 < registers) {
                String step = m + ", " + at / 9 + ", " + at / 3 % 3 + ", " + at % 3;
                ask("stepOf(" + step + ", 0)");
                ask("stepOf(" + step + ", 1)");
            }
        }
        int length = ask("count(0)");
        ask("takes(" + m + ", " + length + ")");
        for (int what = 1; what <= 3; what++) {
            ask("ran(" + m + ", " + length + ", " + what + ")");
        }
        ask("doomed(" + m + ")");
        ask("orbits(" + m + ", 0)");
        ask("orbits(" + m + ", 1)");
        int shortest = ask("shortest(" + m + ")");
        ask("shortestAt(" + m + ", " + (shortest - 1) + ", 1)");
    }

    private void pair(int a, int b) {
        int parts = ask("parts(" + a + ", " + b + ")");
        ask("partsAt(" + a + ", " + b + ", " + (parts - 1) + ", 0)");
        ask("within(" + b + ", " + a + ")");
    }

    private void watches() {
        int watches = ask("count(2)");
        for (int w = 0; w < watches; w++) {
            ask("seen(" + w + ", 0)");
            ask("seen(" + w + ", 1)");
            ask("seen(" + w + ", 2)");
            ask("seen(" + w + ", 3)");
            ask("see(" + w + ", 1, 7)");
            ask("see(" + w + ", 0, 5)");
            ask("seen(" + w + ", 1)");
        }
    }

    /** The row is the only way to see cells, so it goes; names that are known stand before them. */
    private void sheets(int machines) {
        ask("cut(0)");
        for (int name = 5; name < 9; name++) {
            ask("place(0, " + name + ")");
        }
        for (int k = 0; k < 4; k++) {
            for (int lane = 0; lane < 3; lane++) {
                if (ask("scan(" + k + ", " + lane + ", 0, 0)") >= 0) {
                    cells(k, lane, machines);
                }
            }
        }
    }

    private void cells(int k, int lane, int machines) {
        for (int f = 0; f < 6; f += 2) {
            int length = ask("scan(" + k + ", " + lane + ", " + f + ", 1)");
            if (length > 0) {
                ask("first(" + (length - 1) + ")");
            }
            if (length > 0 && machines > 0) {
                ask("ran(0, " + length + ", 0)");
            }
        }
        for (int i = 2; i < 8; i++) {
            ask("lay(" + k + ", " + i + ", 0)");
        }
        ask("lay(" + k + ", 59, 0)");
    }

    /** A machine that is watched refuses this. */
    private void changes(int machines) {
        for (int m = 0; m < machines; m++) {
            ask("good(" + m + ", 0, true)");
        }
    }

    /** What is counted goes on by the same numbers. */
    private void moreOfEach() {
        ask("place(1, 9)");
        ask("machine(2, 1)");
        ask("turned(0)");
        ask("both(0, 0, 1)");
        ask("watch(0)");
        ask("drop()");
        ask("drop()");
    }
}
