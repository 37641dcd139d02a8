/** Rows with names in them, and machines with registers that run over them. */
public final class NameRows {
    public static final int BAD = -1, STATE = -2, FULL = -3, NONE = -4;

    private static final int PLACES = 40, LETTERS = 3, CASES = 3, OTHER_CASE = 2;
    private static final int MACHINES = 6, STATES = 6, REGISTERS = 2, WATCHES = 4;
    private static final int SHEETS = 4, LANES = 3, CELLS = 60, SCANNED = 30;

    /** What see() answers of a watch that is done for. */
    private static final int DONE = -5;
    /** A fault is answered as this less its number, a refused place as the other and the refusal. */
    private static final int FAULT = -10, REFUSED = -20;
    private static final int NULL_FAULT = 1, INDEX_FAULT = 2, CAST_FAULT = 3, SIZE_FAULT = 4;

    /** Which orbits of two machines a walk looks for. */
    private static final int NEVER = 0, UNLIKE = 1, OUTSIDE = 2;

    private final Row row = new Row(PLACES);
    /** One more than may be told: the next machine is made in the spare one before it counts. */
    private final Machine[] machines = new Machine[MACHINES + 1];
    private int machineCount = 0;
    private final Watch[] watches = new Watch[WATCHES];
    private int watchCount = 0;
    private final Sheet[] sheets = new Sheet[SHEETS];

    /** Takes no row: what parts a machine from it is just what the machine takes. */
    private final Machine silent = new Machine();
    private final Pairing pairing = new Pairing();
    private final Run run = new Run();
    private final Walk walk = new Walk();

    /** The least row that was asked for last; known until a machine changes. */
    private final Row least = new Row(Walk.ORBITS);
    private boolean leastKnown = false;
    private int leastOne = NONE, leastOther = NONE, leastAnswer = NONE;
    /** How many unlike machines there are; NONE: to be found out. */
    private int unlikeMachines = NONE;

    public NameRows() {
        for (int i = 0; i < machines.length; i++) {
            machines[i] = new Machine();
        }
        for (int i = 0; i < watches.length; i++) {
            watches[i] = new Watch();
        }
        for (int i = 0; i < sheets.length; i++) {
            sheets[i] = new Sheet();
        }
    }

    // ---- the row

    public int place(int letter, int name) {
        return row.append(letter, name);
    }

    public int cut(int n) {
        if (!row.hasPrefix(n)) {
            return BAD;
        }
        int had = row.length;
        row.length = n;
        return had;
    }

    public int first(int i) {
        return row.hasPlace(i) ? row.firstWithNameOf(i) : BAD;
    }

    public int names() {
        int unlike = 0;
        for (int i = 0; i < row.length; i++) {
            if (row.firstWithNameOf(i) == i) {
                unlike++;
            }
        }
        return unlike;
    }

    // ---- machines

    public int machine(int n, int k) {
        if (n < 1 || n > STATES || k < 0 || k > REGISTERS) {
            return BAD;
        }
        spareMachine().begin(n, k);
        return addSpareMachine();
    }

    public int step(int m, int s, int letter, int which, int to, int keep) {
        Machine told = machineAt(m);
        if (told == null || !told.hasState(to) || !told.canKeep(keep)) {
            return BAD;
        }
        int at = told.stepAt(s, letter, which);
        if (at < 0) {
            return BAD;
        }
        if (told.watched) {
            return STATE;
        }
        told.setStep(at, to, keep);
        machinesChanged();
        return 1;
    }

    public int good(int m, int s, boolean is) {
        Machine told = machineAt(m);
        if (told == null || !told.hasState(s)) {
            return BAD;
        }
        if (told.watched) {
            return STATE;
        }
        int was = told.isGood(s) ? 1 : 0;
        told.setGood(s, is);
        machinesChanged();
        return was;
    }

    public int told(int m, int what) {
        Machine asked = machineAt(m);
        if (asked == null) {
            return BAD;
        }
        switch (what) {
            case 0:
                return asked.states;
            case 1:
                return asked.registers;
            case 2:
                return asked.goodStates();
            default:
                return BAD;
        }
    }

    public int stepOf(int m, int s, int letter, int which, int what) {
        Machine asked = machineAt(m);
        if (asked == null || what < 0 || what > 1) {
            return BAD;
        }
        int at = asked.stepAt(s, letter, which);
        if (at < 0) {
            return BAD;
        }
        return what == 0 ? asked.next[at] : asked.keep[at];
    }

    public int drop() {
        Machine latest = machineAt(machineCount - 1);
        if (latest == null) {
            return NONE;
        }
        if (latest.watched) {
            return STATE;
        }
        machineCount--;
        machinesChanged();
        return machineCount;
    }

    public int turned(int m) {
        Machine model = machineAt(m);
        if (model == null) {
            return BAD;
        }
        spareMachine().turnFrom(model);
        return addSpareMachine();
    }

    public int both(int a, int b, int way) {
        Machine one = machineAt(a);
        Machine other = machineAt(b);
        if (one == null || other == null || way < 0 || way > 2) {
            return BAD;
        }
        if (one.registers > 0 && other.registers > 0) {
            return STATE;
        }
        return pairing.join(spareMachine(), one, other, way) ? addSpareMachine() : STATE;
    }

    private Machine machineAt(int m) {
        return m >= 0 && m < machineCount ? machines[m] : null;
    }

    private Machine spareMachine() {
        return machines[machineCount];
    }

    private int addSpareMachine() {
        if (machineCount >= MACHINES) {
            return FULL;
        }
        machinesChanged();
        machineCount++;
        return machineCount - 1;
    }

    private void machinesChanged() {
        leastKnown = false;
        unlikeMachines = NONE;
    }

    // ---- runs over the row

    public int takes(int m, int n) {
        Machine asked = machineAt(m);
        if (asked == null || !row.hasPrefix(n)) {
            return BAD;
        }
        runOver(asked, n);
        return asked.isGood(run.state) ? 1 : 0;
    }

    public int ran(int m, int n, int what) {
        Machine asked = machineAt(m);
        if (asked == null || !row.hasPrefix(n)) {
            return BAD;
        }
        runOver(asked, n);
        switch (what) {
            case 0:
                return run.state;
            case 1:
                return run.keptAt[0];
            case 2:
                return run.keptAt[1];
            case 3:
                return run.lastCase;
            default:
                return BAD;
        }
    }

    public int doomed(int m) {
        Machine asked = machineAt(m);
        if (asked == null) {
            return BAD;
        }
        learnOrbits(asked);
        run.begin();
        for (int n = 0; n < row.length; n++) {
            if (run.isDoomed(asked)) {
                return n;
            }
            run.go(asked, row.letters[n], row.called[n]);
        }
        return run.isDoomed(asked) ? row.length : NONE;
    }

    private void runOver(Machine m, int n) {
        run.begin();
        for (int i = 0; i < n && i < row.length; i++) {
            run.go(m, row.letters[i], row.called[i]);
        }
    }

    private void learnOrbits(Machine m) {
        if (!m.orbitsKnown) {
            walk.survey(m, silent);
        }
    }

    // ---- orbits, least rows

    public int orbits(int m, int what) {
        Machine asked = machineAt(m);
        if (asked == null) {
            return BAD;
        }
        learnOrbits(asked);
        switch (what) {
            case 0:
                return asked.orbitsOf(Machine.LIVES) + asked.orbitsOf(Machine.DOOMED);
            case 1:
                return asked.orbitsOf(Machine.DOOMED);
            case 2:
                return asked.statesMet();
            default:
                return BAD;
        }
    }

    public int shortest(int m) {
        return findLeast(m, NONE);
    }

    public int shortestAt(int m, int i, int what) {
        return leastAt(m, NONE, i, what);
    }

    public int parts(int a, int b) {
        return machineAt(b) == null ? BAD : findLeast(a, b);
    }

    public int partsAt(int a, int b, int i, int what) {
        return machineAt(b) == null ? BAD : leastAt(a, b, i, what);
    }

    public int within(int a, int b) {
        Machine one = machineAt(a);
        Machine other = machineAt(b);
        if (one == null || other == null) {
            return BAD;
        }
        return walk.explore(one, other, OUTSIDE) == NONE ? 1 : 0;
    }

    public int show(int a, int b) {
        int answer = findLeast(a, b);
        if (answer > PLACES) {
            return FULL;
        }
        if (answer >= 0) {
            row.becomeAs(least);
        }
        return answer;
    }

    /** Finds the least row that parts two, or that the first takes if b is NONE: its length, BAD, NONE. */
    private int findLeast(int a, int b) {
        Machine one = machineAt(a);
        Machine other = b == NONE ? silent : machineAt(b);
        if (one == null || other == null) {
            return BAD;
        }
        if (!leastKnown || a != leastOne || b != leastOther) {
            int end = walk.explore(one, other, UNLIKE);
            if (end == NONE) {
                leastAnswer = NONE;
            } else {
                walk.tellWays(end, least);
                walk.giveNames(one, other, least);
                leastAnswer = least.length;
            }
            leastOne = a;
            leastOther = b;
            leastKnown = true;
        }
        return leastAnswer;
    }

    private int leastAt(int a, int b, int i, int what) {
        // BAD and NONE are below 0: then there is no such place either
        if (i < 0 || i >= findLeast(a, b) || !least.hasPlace(i) || what < 0 || what > 1) {
            return BAD;
        }
        return what == 0 ? least.letters[i] : least.called[i];
    }

    // ---- watches

    public int watch(int m) {
        Machine watched = machineAt(m);
        if (watched == null) {
            return BAD;
        }
        if (watchCount >= WATCHES) {
            return FULL;
        }
        learnOrbits(watched);
        watched.watched = true;
        watches[watchCount].begin(watched);
        watchCount++;
        return watchCount - 1;
    }

    public int see(int w, int letter, int name) {
        Watch asked = watchAt(w);
        if (asked == null || letter < 0 || letter >= LETTERS) {
            return BAD;
        }
        return asked.take(letter, name);
    }

    public int seen(int w, int what) {
        Watch asked = watchAt(w);
        if (asked == null) {
            return BAD;
        }
        switch (what) {
            case 0:
                return asked.run.gone;
            case 1:
                return asked.run.state;
            case 2:
                return asked.timesGood;
            case 3:
                return asked.doneAt;
            default:
                return BAD;
        }
    }

    private Watch watchAt(int w) {
        return w >= 0 && w < watchCount ? watches[w] : null;
    }

    // ---- sheets

    public int sheet(int k, int lane, int n) {
        Sheet told = sheetAt(k);
        if (told == null || lane < 0 || lane >= LANES || n > CELLS) {
            return BAD;
        }
        if (n < 0) {
            return FAULT - SIZE_FAULT;
        }
        told.begin(lane, n);
        return 1;
    }

    public int lay(int k, int i, int v) {
        Sheet told = sheetAt(k);
        if (told == null) {
            return BAD;
        }
        if (told.isNothing()) {
            return FAULT - NULL_FAULT;
        }
        if (!told.hasCell(i)) {
            return FAULT - INDEX_FAULT;
        }
        told.setCell(i, v);
        return 1;
    }

    public int scan(int k, int lane, int f, int n) {
        Sheet read = sheetAt(k);
        if (read == null || lane < 0 || lane >= LANES || n < 0 || n > SCANNED) {
            return BAD;
        }
        if (read.isNothing()) {
            return FAULT - NULL_FAULT;
        }
        if (read.lane != lane) {
            return FAULT - CAST_FAULT;
        }
        int had = row.length;
        for (int i = 0; i < n; i++) {
            int answer = scanPlace(read, f + 2 * i);
            if (answer < 0) {
                row.length = had;
                return answer;
            }
        }
        return row.length;
    }

    private int scanPlace(Sheet read, int at) {
        if (!read.hasCell(at) || !read.hasCell(at + 1)) {
            return FAULT - INDEX_FAULT;
        }
        int answer = row.append(read.cells[at], read.cells[at + 1]);
        return answer < 0 ? REFUSED + answer : answer;
    }

    private Sheet sheetAt(int k) {
        return k >= 0 && k < sheets.length ? sheets[k] : null;
    }

    public int count(int what) {
        switch (what) {
            case 0:
                return row.length;
            case 1:
                return machineCount;
            case 2:
                return watchCount;
            case 3:
                return watchesDone();
            case 4:
                return countUnlikeMachines();
            default:
                return BAD;
        }
    }

    private int watchesDone() {
        int done = 0;
        for (int w = 0; w < watchCount; w++) {
            if (watches[w].isDone()) {
                done++;
            }
        }
        return done;
    }

    private int countUnlikeMachines() {
        if (unlikeMachines == NONE) {
            int unlike = 0;
            for (int m = 0; m < machineCount; m++) {
                if (!isAsEarlierOne(m)) {
                    unlike++;
                }
            }
            unlikeMachines = unlike;
        }
        return unlikeMachines;
    }

    private boolean isAsEarlierOne(int m) {
        for (int i = 0; i < m; i++) {
            if (walk.explore(machines[i], machines[m], UNLIKE) == NONE) {
                return true;
            }
        }
        return false;
    }

    /** Places, each a letter and a name. */
    private static final class Row {
        final int[] letters;
        final int[] called;
        int length = 0;

        Row(int most) {
            int room = Math.max(most, 0);
            letters = new int[room];
            called = new int[room];
        }

        boolean hasPlace(int i) {
            return i >= 0 && i < length;
        }

        boolean hasPrefix(int n) {
            return n >= 0 && n <= length;
        }

        int append(int letter, int name) {
            if (letter < 0 || letter >= LETTERS) {
                return BAD;
            }
            if (length >= letters.length) {
                return FULL;
            }
            letters[length] = letter;
            called[length] = name;
            length++;
            return length;
        }

        int firstWithNameOf(int i) {
            for (int at = 0; at < i; at++) {
                if (called[at] == called[i]) {
                    return at;
                }
            }
            return i;
        }

        void becomeAs(Row model) {
            length = Math.min(model.length, letters.length);
            System.arraycopy(model.letters, 0, letters, 0, length);
            System.arraycopy(model.called, 0, called, 0, length);
        }
    }

    /** States with their steps, and what is known of the orbits. */
    private static final class Machine {
        /** How the registers may stand: 0 or 1 for register 0, 0 to 2 for register 1. */
        static final int PATTERNS = 6;
        static final int LIVES = 1, DOOMED = 2;

        final int[] next = new int[STATES * LETTERS * CASES];
        final int[] keep = new int[STATES * LETTERS * CASES];
        private final boolean[] goodOnes = new boolean[STATES];
        int states = 1;
        int registers = 0;
        boolean watched = false;

        /** LIVES or DOOMED for each orbit, 0 for what no row leads to; up to date if orbitsKnown. */
        private final int[] fate = new int[STATES * PATTERNS];
        boolean orbitsKnown = false;

        Machine() {
            begin(1, 0);
        }

        void begin(int n, int k) {
            states = n;
            registers = k;
            watched = false;
            orbitsKnown = false;
            for (int i = 0; i < next.length; i++) {
                next[i] = i / (LETTERS * CASES);
                keep[i] = NONE;
            }
            for (int s = 0; s < STATES; s++) {
                goodOnes[s] = false;
            }
        }

        void turnFrom(Machine model) {
            begin(model.states, model.registers);
            System.arraycopy(model.next, 0, next, 0, next.length);
            System.arraycopy(model.keep, 0, keep, 0, keep.length);
            for (int s = 0; s < states; s++) {
                goodOnes[s] = !model.goodOnes[s];
            }
        }

        boolean hasState(int s) {
            return s >= 0 && s < states;
        }

        /** Where a step stands in next and keep; NONE: there is no such step. */
        int stepAt(int s, int letter, int which) {
            boolean hasCase = which == OTHER_CASE || which >= 0 && which < registers;
            boolean has = hasCase && s >= 0 && s < states && letter >= 0 && letter < LETTERS;
            return has ? (s * LETTERS + letter) * CASES + which : NONE;
        }

        boolean canKeep(int register) {
            return register == NONE || register >= 0 && register < registers;
        }

        void setStep(int at, int to, int register) {
            if (at >= 0 && at < next.length) {
                next[at] = to;
                keep[at] = register;
                orbitsKnown = false;
            }
        }

        boolean isGood(int s) {
            return hasState(s) && goodOnes[s];
        }

        void setGood(int s, boolean is) {
            if (hasState(s)) {
                goodOnes[s] = is;
                orbitsKnown = false;
            }
        }

        int goodStates() {
            int found = 0;
            for (int s = 0; s < states; s++) {
                if (goodOnes[s]) {
                    found++;
                }
            }
            return found;
        }

        void forgetOrbits() {
            for (int i = 0; i < fate.length; i++) {
                fate[i] = 0;
            }
        }

        void setFate(int s, int pattern, int is) {
            if (hasState(s) && pattern >= 0 && pattern < PATTERNS) {
                fate[s * PATTERNS + pattern] = is;
            }
        }

        int fateOf(int s, int pattern) {
            return hasState(s) && pattern >= 0 && pattern < PATTERNS ? fate[s * PATTERNS + pattern] : 0;
        }

        int orbitsOf(int wanted) {
            int found = 0;
            for (int i = 0; i < fate.length; i++) {
                if (fate[i] == wanted) {
                    found++;
                }
            }
            return found;
        }

        int statesMet() {
            int met = 0;
            for (int s = 0; s < states; s++) {
                if (isMet(s)) {
                    met++;
                }
            }
            return met;
        }

        private boolean isMet(int s) {
            for (int pattern = 0; pattern < PATTERNS; pattern++) {
                if (fateOf(s, pattern) != 0) {
                    return true;
                }
            }
            return false;
        }
    }

    /** Makes one machine that goes along as two. */
    private static final class Pairing {
        private final int[] pairs = new int[STATES];
        private int met = 0;

        /** Whether the pairs of states that are met are few enough for a machine. */
        boolean join(Machine made, Machine a, Machine b, int way) {
            made.begin(STATES, Math.max(a.registers, b.registers));
            met = 0;
            numberOf(0);
            for (int i = 0; i < met && i < STATES; i++) {
                if (!joinSteps(made, i, a, b)) {
                    return false;
                }
                made.setGood(i, isGood(a.isGood(pairs[i] / STATES), b.isGood(pairs[i] % STATES), way));
            }
            made.states = met;
            return true;
        }

        private boolean joinSteps(Machine made, int i, Machine a, Machine b) {
            int s = pairs[i] / STATES;
            int t = pairs[i] % STATES;
            for (int letter = 0; letter < LETTERS; letter++) {
                for (int which = 0; which < CASES; which++) {
                    int at = made.stepAt(i, letter, which);
                    int atA = a.stepAt(s, letter, a.registers > 0 ? which : OTHER_CASE);
                    int atB = b.stepAt(t, letter, b.registers > 0 ? which : OTHER_CASE);
                    if (at < 0 || atA < 0 || atB < 0) {
                        continue;
                    }
                    int to = numberOf(a.next[atA] * STATES + b.next[atB]);
                    if (to < 0) {
                        return false;
                    }
                    made.setStep(at, to, b.registers > 0 ? b.keep[atB] : a.keep[atA]);
                }
            }
            return true;
        }

        /** The number of a pair, a new one if it was not met yet; NONE if there is no number left. */
        private int numberOf(int pair) {
            for (int i = 0; i < met; i++) {
                if (pairs[i] == pair) {
                    return i;
                }
            }
            if (met >= STATES) {
                return NONE;
            }
            pairs[met] = pair;
            met++;
            return met - 1;
        }

        private static boolean isGood(boolean one, boolean other, int way) {
            if (way == 0) {
                return one && other;
            }
            return way == 1 ? one || other : one != other;
        }
    }

    /** A machine's state and registers on its way along places. */
    private static final class Run {
        int state = 0;
        /** The names in the registers; they stand there only if keptAt is not NONE. */
        final int[] held = new int[REGISTERS];
        final int[] keptAt = new int[REGISTERS];
        int lastCase = NONE;
        int gone = 0;

        void begin() {
            state = 0;
            lastCase = NONE;
            gone = 0;
            for (int r = 0; r < REGISTERS; r++) {
                held[r] = 0;
                keptAt[r] = NONE;
            }
        }

        void go(Machine m, int letter, int name) {
            lastCase = caseOf(name);
            int at = m.stepAt(state, letter, lastCase);
            if (at >= 0) {
                keepIn(m.keep[at], name);
                state = m.next[at];
            }
            gone++;
        }

        private void keepIn(int register, int name) {
            if (register >= 0 && register < REGISTERS) {
                held[register] = name;
                keptAt[register] = gone;
            }
        }

        private int caseOf(int name) {
            for (int r = 0; r < REGISTERS; r++) {
                if (keptAt[r] != NONE && held[r] == name) {
                    return r;
                }
            }
            return OTHER_CASE;
        }

        boolean isDoomed(Machine m) {
            return m.fateOf(state, pattern()) == Machine.DOOMED;
        }

        /** The labels that a walk gives to such registers, as one number. */
        private int pattern() {
            int label0 = keptAt[0] == NONE ? 0 : 1;
            if (keptAt[1] == NONE) {
                return Walk.patternOf(label0, 0);
            }
            boolean alike = label0 == 1 && held[0] == held[1];
            return Walk.patternOf(label0, alike ? 1 : label0 + 1);
        }
    }

    /** A machine's run over a stream of places. */
    private static final class Watch {
        final Run run = new Run();
        private Machine machine = null;
        int timesGood = 0;
        int doneAt = NONE;

        void begin(Machine m) {
            machine = m;
            run.begin();
            timesGood = 0;
            doneAt = run.isDoomed(m) ? 0 : NONE;
        }

        boolean isDone() {
            return doneAt != NONE;
        }

        int take(int letter, int name) {
            if (isDone() || machine == null) {
                return DONE;
            }
            run.go(machine, letter, name);
            if (run.isDoomed(machine)) {
                doneAt = run.gone;
                return DONE;
            }
            if (!machine.isGood(run.state)) {
                return 0;
            }
            timesGood++;
            return 1;
        }
    }

    /** A row of cells of one lane, or nothing. */
    private static final class Sheet {
        final int[] cells = new int[CELLS];
        int lane = NONE;
        private int size = 0;

        void begin(int newLane, int n) {
            lane = newLane;
            size = n;
            for (int i = 0; i < cells.length; i++) {
                cells[i] = 0;
            }
        }

        boolean isNothing() {
            return lane == NONE;
        }

        boolean hasCell(int i) {
            return i >= 0 && i < size;
        }

        void setCell(int i, int v) {
            if (hasCell(i)) {
                cells[i] = lane == 0 ? (byte) v : lane == 1 ? (short) v : v;
            }
        }
    }

    /**
     * The orbits of two machines that go along one row, in the order in which their ways are gone.
     * So the first orbit of a kind that is found ends the least row to one of that kind.
     */
    private static final class Walk {
        /** Registers of both machines, and the ways for each letter: their names, then a new one. */
        static final int HELD = 2 * REGISTERS, NAME_WAYS = HELD + 1, WAYS = LETTERS * NAME_WAYS;
        /** Four registers that are empty or share names stand in 52 ways. */
        static final int ORBITS = STATES * STATES * 52;
        /** The label of register r, 0 (empty) or 1 up to r + 1, is one digit of an orbit's code. */
        private static final int HELD_CODES = 2 * 3 * 4 * 5, CODES = STATES * STATES * HELD_CODES;
        private static final int NEW_LABEL = HELD + 1;
        /** How many orbits a machine has at the most, alone. */
        private static final int ALONE = STATES * 5;

        /** For each code the orbit's number and one; 0: not met. */
        private final int[] numberOf = new int[CODES];
        private final int[] codes = new int[ORBITS];
        private final int[] cameFrom = new int[ORBITS];
        private final int[] cameBy = new int[ORBITS];
        private int met = 0;

        /** The orbit that is looked at: the states, and a label for each name in a register. */
        private int state1 = 0, state2 = 0, heldCode = 0;
        private final int[] labels = new int[HELD];
        /** Of each name that may come: its label (0: no such way), the cases of both machines. */
        private final int[] wayLabels = new int[NAME_WAYS];
        private final int[] cases1 = new int[NAME_WAYS];
        private final int[] cases2 = new int[NAME_WAYS];

        private final int[] newLabels = new int[HELD];
        private final int[] digits = new int[HELD];

        /** Of one machine's orbits: whether a good state can come, and where each way leads. */
        private final boolean[] lives = new boolean[ALONE];
        private final int[] next = new int[ALONE * WAYS];

        private final Run run1 = new Run();
        private final Run run2 = new Run();

        static int patternOf(int label0, int label1) {
            return label0 * 3 + label1;
        }

        /** The number of the first orbit that is wanted; NONE, and all are met, if there is none. */
        int explore(Machine one, Machine other, int wanted) {
            forget();
            meet(0, NONE, NONE);
            for (int i = 0; i < met && i < ORBITS; i++) {
                lookAt(i);
                if (isWanted(one.isGood(state1), other.isGood(state2), wanted)) {
                    return i;
                }
                for (int way = 0; way < WAYS; way++) {
                    meet(codeBehind(one, other, way), i, way);
                }
            }
            return NONE;
        }

        private void forget() {
            for (int i = 0; i < met; i++) {
                numberOf[codes[i]] = 0;
            }
            met = 0;
        }

        private void meet(int code, int from, int way) {
            if (code < 0 || code >= CODES || met >= ORBITS || numberOf[code] != 0) {
                return;
            }
            codes[met] = code;
            cameFrom[met] = from;
            cameBy[met] = way;
            met++;
            numberOf[code] = met;
        }

        private static boolean isWanted(boolean firstTakes, boolean secondTakes, int wanted) {
            if (wanted == UNLIKE) {
                return firstTakes != secondTakes;
            }
            return wanted == OUTSIDE && firstTakes && !secondTakes;
        }

        private void lookAt(int i) {
            int code = codes[i];
            heldCode = code % HELD_CODES;
            for (int r = HELD - 1; r >= 0; r--) {
                labels[r] = code % (r + 2);
                code = code / (r + 2);
            }
            state1 = code / STATES;
            state2 = code % STATES;
            for (int way = 0; way < NAME_WAYS; way++) {
                wayLabels[way] = labelOf(way);
                cases1[way] = caseOf(wayLabels[way], 0);
                cases2[way] = caseOf(wayLabels[way], REGISTERS);
            }
        }

        /** The code of the orbit behind a way from the one that is looked at; NONE: no such way. */
        private int codeBehind(Machine one, Machine other, int way) {
            int nameWay = way % NAME_WAYS;
            int letter = way / NAME_WAYS;
            if (nameWay < 0 || wayLabels[nameWay] == 0) {
                return NONE;
            }
            int at1 = one.stepAt(state1, letter, cases1[nameWay]);
            int at2 = other.stepAt(state2, letter, cases2[nameWay]);
            if (at1 < 0 || at2 < 0) {
                return NONE;
            }
            int states = one.next[at1] * STATES + other.next[at2];
            return states * HELD_CODES + heldBehind(wayLabels[nameWay], one.keep[at1], other.keep[at2]);
        }

        /** The label of the name that comes; 0 if the register is empty or an earlier one has it. */
        private int labelOf(int nameWay) {
            if (nameWay < 0 || nameWay >= HELD) {
                return NEW_LABEL;
            }
            for (int r = 0; r < nameWay; r++) {
                if (labels[r] == labels[nameWay]) {
                    return 0;
                }
            }
            return labels[nameWay];
        }

        private int caseOf(int label, int base) {
            for (int r = 0; r < REGISTERS; r++) {
                if (labels[base + r] == label) {
                    return r;
                }
            }
            return OTHER_CASE;
        }

        /** Labels are numbered as they come first, so that a renaming has the same code. */
        private int heldBehind(int label, int register1, int register2) {
            if (register1 == NONE && register2 == NONE) {
                return heldCode;
            }
            System.arraycopy(labels, 0, newLabels, 0, HELD);
            keep(label, 0, register1);
            keep(label, REGISTERS, register2);
            int code = 0;
            int used = 0;
            for (int r = 0; r < HELD; r++) {
                int digit = digitOfEarlier(r);
                if (digit == NONE) {
                    used++;
                    digit = used;
                }
                digits[r] = digit;
                code = code * (r + 2) + digit;
            }
            return code;
        }

        private void keep(int label, int base, int register) {
            if (register >= 0 && register < REGISTERS) {
                newLabels[base + register] = label;
            }
        }

        /** 0 for an empty register; NONE if no earlier one has the name. */
        private int digitOfEarlier(int r) {
            if (newLabels[r] == 0) {
                return 0;
            }
            for (int q = 0; q < r; q++) {
                if (newLabels[q] == newLabels[r]) {
                    return digits[q];
                }
            }
            return NONE;
        }

        /** Tells the row that led to orbit end, with the ways of its names in place of them. */
        void tellWays(int end, Row told) {
            int length = 0;
            for (int at = end; at > 0 && at < met && length < told.letters.length; at = cameFrom[at]) {
                length++;
            }
            told.length = length;
            int at = end;
            for (int i = length - 1; i >= 0 && at > 0 && at < met; i--) {
                told.letters[i] = cameBy[at] / NAME_WAYS;
                told.called[i] = cameBy[at] % NAME_WAYS;
                at = cameFrom[at];
            }
        }

        /** The way of each name becomes the name: only a run along the row knows what is held where. */
        void giveNames(Machine one, Machine other, Row told) {
            run1.begin();
            run2.begin();
            int fresh = 0;
            for (int i = 0; i < told.length; i++) {
                int nameWay = told.called[i];
                int name = fresh;
                if (nameWay >= 0 && nameWay < REGISTERS) {
                    name = run1.held[nameWay];
                } else if (nameWay >= REGISTERS && nameWay < HELD) {
                    name = run2.held[nameWay - REGISTERS];
                } else {
                    fresh++;
                }
                told.called[i] = name;
                run1.go(one, told.letters[i], name);
                run2.go(other, told.letters[i], name);
            }
        }

        /** Finds out the orbits of a machine and which of them are doomed; silent is to take no row. */
        void survey(Machine m, Machine silent) {
            explore(m, silent, NEVER);
            for (int i = 0; i < met && i < ALONE; i++) {
                lookAt(i);
                lives[i] = m.isGood(state1);
                tellNext(i, m, silent);
            }
            boolean more = true;
            for (int round = 0; round < ALONE && more; round++) {
                more = spreadLife();
            }
            m.forgetOrbits();
            for (int i = 0; i < met && i < ALONE; i++) {
                lookAt(i);
                m.setFate(state1, patternOf(labels[0], labels[1]), lives[i] ? Machine.LIVES : Machine.DOOMED);
            }
            m.orbitsKnown = true;
        }

        private void tellNext(int i, Machine m, Machine silent) {
            for (int way = 0; way < WAYS; way++) {
                int code = codeBehind(m, silent, way);
                next[i * WAYS + way] = code >= 0 && code < CODES ? numberOf[code] - 1 : NONE;
            }
        }

        /** One round backwards from what lives; whether it found more. */
        private boolean spreadLife() {
            boolean more = false;
            for (int i = Math.min(met, ALONE) - 1; i >= 0; i--) {
                if (!lives[i] && leadsToLife(i)) {
                    lives[i] = true;
                    more = true;
                }
            }
            return more;
        }

        private boolean leadsToLife(int i) {
            for (int way = 0; way < WAYS; way++) {
                int number = next[i * WAYS + way];
                if (number >= 0 && number < ALONE && lives[number]) {
                    return true;
                }
            }
            return false;
        }
    }
}
