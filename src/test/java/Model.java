import java.util.ArrayList;
import java.util.Arrays;
import java.util.HashMap;
import java.util.HashSet;
import java.util.List;
import java.util.Map;
import java.util.Objects;
import java.util.Set;
import java.util.TreeSet;

/**
 * The document once more, written without care for speed or room and in another way than NameRows:
 * registers hold real names, rows are lists, nothing is remembered between calls.
 */
final class Model {
    private static final int BAD = -1, STATE = -2, FULL = -3, NONE = -4;

    record Place(int letter, int name) {
    }

    record Step(int to, int keep) {
    }

    /** A machine's state and registers (null: empty). */
    record Spot(int state, Integer r0, Integer r1) {
        static final Spot BEGIN = new Spot(0, null, null);

        int caseOf(int name) {
            return r0 != null && r0 == name ? 0 : r1 != null && r1 == name ? 1 : 2;
        }

        Spot after(Auto m, Place p) {
            Step step = m.steps.get(List.of(state, p.letter, caseOf(p.name)));
            return new Spot(step.to, step.keep == 0 ? Integer.valueOf(p.name) : r0,
                step.keep == 1 ? Integer.valueOf(p.name) : r1);
        }

        String orbit() {
            return state + " " + (r0 == null) + " " + (r1 == null) + " " + (r0 != null && Objects.equals(r0, r1));
        }
    }

    static final class Auto {
        final int k;
        final List<Boolean> good = new ArrayList<>();
        final Map<List<Integer>, Step> steps = new HashMap<>();

        Auto(int n, int k) {
            this.k = k;
            for (int s = 0; s < n; s++) {
                good.add(false);
                for (int letter = 0; letter < 3; letter++) {
                    for (int which : cases(k)) {
                        steps.put(List.of(s, letter, which), new Step(s, NONE));
                    }
                }
            }
        }

        boolean takes(List<Place> row) {
            return good.get(behind(row).state);
        }

        Spot behind(List<Place> row) {
            Spot spot = Spot.BEGIN;
            for (Place p : row) {
                spot = spot.after(this, p);
            }
            return spot;
        }
    }

    static final class Seer {
        final Auto m;
        final List<Place> stream = new ArrayList<>();
        int timesGood = 0;

        Seer(Auto m) {
            this.m = m;
        }

        int doneAt() {
            return doomedAt(m, stream);
        }
    }

    private final List<Place> row = new ArrayList<>();
    private final List<Auto> autos = new ArrayList<>();
    private final List<Seer> seers = new ArrayList<>();
    private final Object[] sheets = new Object[4];

    static int[] cases(int k) {
        return k == 0 ? new int[] {2} : k == 1 ? new int[] {0, 2} : new int[] {0, 1, 2};
    }

    /** The ways on from two spots behind a row: the names that are held, then a new one. */
    static List<Place> ways(List<Place> row, Spot a, Spot b) {
        List<Integer> names = new ArrayList<>();
        for (Integer name : Arrays.asList(a.r0, a.r1, b.r0, b.r1)) {
            if (name != null && !names.contains(name)) {
                names.add(name);
            }
        }
        Set<Integer> came = new HashSet<>();
        for (Place p : row) {
            came.add(p.name);
        }
        names.add(came.size());
        List<Place> ways = new ArrayList<>();
        for (int letter = 0; letter < 3; letter++) {
            for (int name : names) {
                ways.add(new Place(letter, name));
            }
        }
        return ways;
    }

    static String renamed(Spot a, Spot b) {
        StringBuilder text = new StringBuilder().append(a.state).append(' ').append(b.state);
        List<Integer> known = new ArrayList<>();
        for (Integer name : Arrays.asList(a.r0, a.r1, b.r0, b.r1)) {
            if (name != null && !known.contains(name)) {
                known.add(name);
            }
            text.append(' ').append(name == null ? "-" : known.indexOf(name));
        }
        return text.toString();
    }

    /** Rows to every orbit of two machines, the least to each, shortest first and then by ways. */
    static List<List<Place>> leastRows(Auto a, Auto b) {
        List<List<Place>> all = new ArrayList<>();
        Set<String> met = new HashSet<>();
        List<List<Place>> level = List.of(List.of());
        met.add(renamed(Spot.BEGIN, Spot.BEGIN));
        while (!level.isEmpty()) {
            all.addAll(level);
            List<List<Place>> next = new ArrayList<>();
            for (List<Place> old : level) {
                Spot sa = a.behind(old);
                Spot sb = b.behind(old);
                for (Place way : ways(old, sa, sb)) {
                    if (met.add(renamed(sa.after(a, way), sb.after(b, way)))) {
                        List<Place> longer = new ArrayList<>(old);
                        longer.add(way);
                        next.add(longer);
                    }
                }
            }
            level = next;
        }
        return all;
    }

    static List<Place> leastParting(Auto a, Auto b) {
        for (List<Place> r : leastRows(a, b)) {
            if (a.takes(r) != b.takes(r)) {
                return r;
            }
        }
        return null;
    }

    static boolean isDoomed(Auto m, Spot from) {
        Set<String> met = new HashSet<>();
        List<Spot> open = new ArrayList<>();
        open.add(from);
        met.add(from.orbit());
        for (int i = 0; i < open.size(); i++) {
            Spot spot = open.get(i);
            if (m.good.get(spot.state)) {
                return false;
            }
            int strange = 1;
            while (spot.caseOf(strange) != 2) {
                strange++;
            }
            for (Integer name : Arrays.asList(spot.r0, spot.r1, strange)) {
                for (int letter = 0; letter < 3 && name != null; letter++) {
                    Spot after = spot.after(m, new Place(letter, name));
                    if (met.add(after.orbit())) {
                        open.add(after);
                    }
                }
            }
        }
        return true;
    }

    static int doomedAt(Auto m, List<Place> row) {
        for (int n = 0; n <= row.size(); n++) {
            if (isDoomed(m, m.behind(row.subList(0, n)))) {
                return n;
            }
        }
        return NONE;
    }

    private Auto auto(int m) {
        return m < 0 || m >= autos.size() ? null : autos.get(m);
    }

    private boolean watched(Auto m) {
        return seers.stream().anyMatch(s -> s.m == m);
    }

    private int add(Auto m) {
        if (autos.size() == 6) {
            return FULL;
        }
        autos.add(m);
        return autos.size() - 1;
    }

    public int place(int letter, int name) {
        if (letter < 0 || letter > 2) {
            return BAD;
        }
        if (row.size() == 40) {
            return FULL;
        }
        row.add(new Place(letter, name));
        return row.size();
    }

    public int cut(int n) {
        if (n < 0 || n > row.size()) {
            return BAD;
        }
        int had = row.size();
        row.subList(n, had).clear();
        return had;
    }

    public int first(int i) {
        if (i < 0 || i >= row.size()) {
            return BAD;
        }
        int at = 0;
        while (row.get(at).name != row.get(i).name) {
            at++;
        }
        return at;
    }

    public int names() {
        return (int) row.stream().map(Place::name).distinct().count();
    }

    public int machine(int n, int k) {
        return n < 1 || n > 6 || k < 0 || k > 2 ? BAD : add(new Auto(n, k));
    }

    public int step(int m, int s, int letter, int which, int to, int keep) {
        Auto a = auto(m);
        if (a == null || !a.steps.containsKey(List.of(s, letter, which)) || to < 0 || to >= a.good.size()
            || keep != NONE && (keep < 0 || keep >= a.k)) {
            return BAD;
        }
        if (watched(a)) {
            return STATE;
        }
        a.steps.put(List.of(s, letter, which), new Step(to, keep));
        return 1;
    }

    public int good(int m, int s, boolean is) {
        Auto a = auto(m);
        if (a == null || s < 0 || s >= a.good.size()) {
            return BAD;
        }
        return watched(a) ? STATE : a.good.set(s, is) ? 1 : 0;
    }

    public int told(int m, int what) {
        Auto a = auto(m);
        if (a == null || what < 0 || what > 2) {
            return BAD;
        }
        return what == 0 ? a.good.size() : what == 1 ? a.k : (int) a.good.stream().filter(g -> g).count();
    }

    public int stepOf(int m, int s, int letter, int which, int what) {
        Auto a = auto(m);
        Step step = a == null ? null : a.steps.get(List.of(s, letter, which));
        if (step == null || what < 0 || what > 1) {
            return BAD;
        }
        return what == 0 ? step.to : step.keep;
    }

    public int drop() {
        if (autos.isEmpty()) {
            return NONE;
        }
        int last = autos.size() - 1;
        if (watched(autos.get(last))) {
            return STATE;
        }
        autos.remove(last);
        return last;
    }

    public int turned(int m) {
        Auto a = auto(m);
        if (a == null) {
            return BAD;
        }
        Auto made = new Auto(a.good.size(), a.k);
        made.steps.putAll(a.steps);
        made.good.replaceAll(g -> false);
        for (int s = 0; s < a.good.size(); s++) {
            made.good.set(s, !a.good.get(s));
        }
        return add(made);
    }

    public int both(int a, int b, int way) {
        Auto one = auto(a);
        Auto other = auto(b);
        if (one == null || other == null || way < 0 || way > 2) {
            return BAD;
        }
        if (one.k > 0 && other.k > 0) {
            return STATE;
        }
        int k = one.k + other.k;
        List<List<Integer>> pairs = new ArrayList<>();
        pairs.add(List.of(0, 0));
        Map<List<Integer>, Step> steps = new HashMap<>();
        for (int i = 0; i < pairs.size(); i++) {
            for (int letter = 0; letter < 3; letter++) {
                for (int which : cases(k)) {
                    Step s = one.steps.get(List.of(pairs.get(i).get(0), letter, one.k > 0 ? which : 2));
                    Step t = other.steps.get(List.of(pairs.get(i).get(1), letter, other.k > 0 ? which : 2));
                    List<Integer> pair = List.of(s.to, t.to);
                    if (!pairs.contains(pair)) {
                        pairs.add(pair);
                    }
                    steps.put(List.of(i, letter, which),
                        new Step(pairs.indexOf(pair), one.k > 0 ? s.keep : other.k > 0 ? t.keep : NONE));
                }
            }
        }
        if (pairs.size() > 6) {
            return STATE;
        }
        Auto made = new Auto(pairs.size(), k);
        made.steps.putAll(steps);
        for (int i = 0; i < pairs.size(); i++) {
            int goods = (one.good.get(pairs.get(i).get(0)) ? 1 : 0) + (other.good.get(pairs.get(i).get(1)) ? 1 : 0);
            made.good.set(i, way == 0 ? goods == 2 : way == 1 ? goods > 0 : goods == 1);
        }
        return add(made);
    }

    public int takes(int m, int n) {
        Auto a = auto(m);
        return a == null || n < 0 || n > row.size() ? BAD : a.takes(row.subList(0, n)) ? 1 : 0;
    }

    public int ran(int m, int n, int what) {
        Auto a = auto(m);
        if (a == null || n < 0 || n > row.size() || what < 0 || what > 3) {
            return BAD;
        }
        int[] last = {0, NONE, NONE, NONE};
        Spot spot = Spot.BEGIN;
        for (int i = 0; i < n; i++) {
            last[3] = spot.caseOf(row.get(i).name);
            int keep = a.steps.get(List.of(spot.state, row.get(i).letter, last[3])).keep;
            if (keep != NONE) {
                last[1 + keep] = i;
            }
            spot = spot.after(a, row.get(i));
        }
        last[0] = spot.state;
        return last[what];
    }

    public int doomed(int m) {
        return auto(m) == null ? BAD : doomedAt(auto(m), row);
    }

    public int orbits(int m, int what) {
        Auto a = auto(m);
        if (a == null || what < 0 || what > 2) {
            return BAD;
        }
        Set<String> orbits = new TreeSet<>();
        Set<String> doomed = new TreeSet<>();
        Set<Integer> states = new TreeSet<>();
        for (List<Place> r : leastRows(a, new Auto(1, 0))) {
            Spot spot = a.behind(r);
            orbits.add(spot.orbit());
            states.add(spot.state);
            if (isDoomed(a, spot)) {
                doomed.add(spot.orbit());
            }
        }
        return what == 0 ? orbits.size() : what == 1 ? doomed.size() : states.size();
    }

    private static int lengthOf(List<Place> r) {
        return r == null ? NONE : r.size();
    }

    private static int at(List<Place> r, int i, int what) {
        if (r == null || i < 0 || i >= r.size() || what < 0 || what > 1) {
            return BAD;
        }
        return what == 0 ? r.get(i).letter : r.get(i).name;
    }

    public int shortest(int m) {
        return auto(m) == null ? BAD : lengthOf(leastParting(auto(m), new Auto(1, 0)));
    }

    public int shortestAt(int m, int i, int what) {
        return auto(m) == null ? BAD : at(leastParting(auto(m), new Auto(1, 0)), i, what);
    }

    public int parts(int a, int b) {
        return auto(a) == null || auto(b) == null ? BAD : lengthOf(leastParting(auto(a), auto(b)));
    }

    public int partsAt(int a, int b, int i, int what) {
        return auto(a) == null || auto(b) == null ? BAD : at(leastParting(auto(a), auto(b)), i, what);
    }

    public int within(int a, int b) {
        Auto one = auto(a);
        Auto other = auto(b);
        if (one == null || other == null) {
            return BAD;
        }
        return leastRows(one, other).stream().anyMatch(r -> one.takes(r) && !other.takes(r)) ? 0 : 1;
    }

    public int show(int a, int b) {
        if (auto(a) == null || b != NONE && auto(b) == null) {
            return BAD;
        }
        List<Place> r = leastParting(auto(a), b == NONE ? new Auto(1, 0) : auto(b));
        if (r == null) {
            return NONE;
        }
        if (r.size() > 40) {
            return FULL;
        }
        row.clear();
        row.addAll(r);
        return r.size();
    }

    public int watch(int m) {
        if (auto(m) == null) {
            return BAD;
        }
        if (seers.size() == 4) {
            return FULL;
        }
        seers.add(new Seer(auto(m)));
        return seers.size() - 1;
    }

    public int see(int w, int letter, int name) {
        if (w < 0 || w >= seers.size() || letter < 0 || letter > 2) {
            return BAD;
        }
        Seer seer = seers.get(w);
        if (seer.doneAt() != NONE) {
            return -5;
        }
        seer.stream.add(new Place(letter, name));
        if (seer.doneAt() != NONE) {
            return -5;
        }
        int good = seer.m.takes(seer.stream) ? 1 : 0;
        seer.timesGood += good;
        return good;
    }

    public int seen(int w, int what) {
        if (w < 0 || w >= seers.size() || what < 0 || what > 3) {
            return BAD;
        }
        Seer seer = seers.get(w);
        return new int[] {seer.stream.size(), seer.m.behind(seer.stream).state, seer.timesGood, seer.doneAt()}[what];
    }

    public int sheet(int k, int lane, int n) {
        if (k < 0 || k > 3 || lane < 0 || lane > 2 || n > 60) {
            return BAD;
        }
        if (n < 0) {
            return -14;
        }
        sheets[k] = lane == 0 ? new byte[n] : lane == 1 ? new short[n] : new int[n];
        return 1;
    }

    public int lay(int k, int i, int v) {
        if (k < 0 || k > 3) {
            return BAD;
        }
        try {
            if (sheets[k] instanceof byte[] bytes) {
                bytes[i] = (byte) v;
            } else if (sheets[k] instanceof short[] shorts) {
                shorts[i] = (short) v;
            } else {
                ((int[]) sheets[k])[i] = v;
            }
            return 1;
        } catch (NullPointerException e) {
            return -11;
        } catch (ArrayIndexOutOfBoundsException e) {
            return -12;
        }
    }

    private int cell(int k, int lane, int i) {
        return lane == 0 ? ((byte[]) sheets[k])[i] : lane == 1 ? ((short[]) sheets[k])[i] : ((int[]) sheets[k])[i];
    }

    public int scan(int k, int lane, int f, int n) {
        if (k < 0 || k > 3 || lane < 0 || lane > 2 || n < 0 || n > 30) {
            return BAD;
        }
        if (sheets[k] == null) {
            return -11;
        }
        int had = row.size();
        int answer = had;
        try {
            int length = lane == 0 ? ((byte[]) sheets[k]).length
                : lane == 1 ? ((short[]) sheets[k]).length : ((int[]) sheets[k]).length;
            for (int i = 0; i < n && answer >= 0 && length >= 0; i++) {
                answer = place(cell(k, lane, f + 2 * i), cell(k, lane, f + 2 * i + 1));
                answer = answer < 0 ? answer - 20 : answer;
            }
        } catch (ClassCastException e) {
            answer = -13;
        } catch (ArrayIndexOutOfBoundsException e) {
            answer = -12;
        }
        if (answer < 0) {
            cut(had);
        }
        return answer;
    }

    public int count(int what) {
        switch (what) {
            case 0:
                return row.size();
            case 1:
                return autos.size();
            case 2:
                return seers.size();
            case 3:
                return (int) seers.stream().filter(s -> s.doneAt() != NONE).count();
            case 4:
                List<Auto> unlike = new ArrayList<>();
                for (Auto m : autos) {
                    if (unlike.stream().noneMatch(u -> leastParting(u, m) == null)) {
                        unlike.add(m);
                    }
                }
                return unlike.size();
            default:
                return BAD;
        }
    }
}
