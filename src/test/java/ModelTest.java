import java.lang.reflect.Method;
import java.util.ArrayList;
import java.util.Arrays;
import java.util.List;
import java.util.Random;

/** Long runs of calls, ordinary and wrong ones, held against the model of the document. */
public final class ModelTest {
    private static final int RUNS = 400, CALLS = 512;
    /** How often each call is made; what changes machines comes often, so that they differ. */
    private static final String[] CALLED = {
        "place*14", "cut*2", "first*3", "names*2", "machine*4", "step*60", "good*14", "told*4", "stepOf*6",
        "drop*2", "turned*2", "both*5", "takes*8", "ran*12", "doomed*6", "orbits*8", "shortest*5", "shortestAt*6",
        "parts*6", "partsAt*8", "within*5", "show*3", "watch*1", "see*14", "seen*8", "sheet*4", "lay*16", "scan*8",
        "count*5"
    };
    private static final int[] EXTREME = {Integer.MIN_VALUE, Integer.MAX_VALUE, Integer.MAX_VALUE - 1, -3, -2, 7, 41, 61};

    private final Random random;
    private final NameRows real = new NameRows();
    private final Model model = new Model();

    private ModelTest(long seed) {
        random = new Random(seed);
    }

    public static void main(String[] args) throws ReflectiveOperationException {
        List<Method[]> methods = new ArrayList<>();
        for (String called : CALLED) {
            String[] parts = called.split("\\*");
            for (int i = Integer.parseInt(parts[1]); i > 0; i--) {
                methods.add(new Method[] {find(NameRows.class, parts[0]), find(Model.class, parts[0])});
            }
        }
        for (int run = 0; run < RUNS; run++) {
            new ModelTest(run).go(run, methods);
        }
        Due.end();
    }

    private static Method find(Class<?> from, String name) {
        return Arrays.stream(from.getDeclaredMethods()).filter(m -> m.getName().equals(name)).findFirst().orElseThrow();
    }

    /** Two machines with all their steps at random, so that many orbits are met: how many calls that took. */
    private int fill() {
        int calls = 0;
        for (int m = 0; m < 2; m++) {
            int n = 2 + random.nextInt(5);
            int k = random.nextInt(3);
            real.machine(n, k);
            model.machine(n, k);
            for (int at = 0; at < n * 9; at++) {
                int to = random.nextInt(n);
                int keep = random.nextInt(k + 1) == k ? NameRows.NONE : random.nextInt(Math.max(k, 1));
                real.step(m, at / 9, at / 3 % 3, at % 3, to, keep);
                model.step(m, at / 9, at / 3 % 3, at % 3, to, keep);
            }
            int good = random.nextInt(n);
            real.good(m, good, true);
            model.good(m, good, true);
            calls += n * 9 + 2;
        }
        return calls;
    }

    private void go(int run, List<Method[]> methods) throws ReflectiveOperationException {
        for (int i = run % 2 == 0 ? 0 : fill(); i < CALLS; i++) {
            Method[] pair = methods.get(random.nextInt(methods.size()));
            Object[] given = given(pair[0]);
            int got = (Integer) pair[0].invoke(real, given);
            int want = (Integer) pair[1].invoke(model, given);
            Due.due("run " + run + ", call " + i + ": " + pair[0].getName() + Arrays.toString(given), got, want);
            if (got != want) {
                return;
            }
        }
    }

    private Object[] given(Method method) {
        int[] bounds = bounds(method.getName());
        Object[] given = new Object[bounds.length];
        for (int i = 0; i < given.length; i++) {
            given[i] = random.nextInt(60) == 0 ? EXTREME[random.nextInt(EXTREME.length)] : random.nextInt(bounds[i]);
        }
        switch (method.getName()) {
            case "good":
                given[2] = random.nextInt(3) == 0;
                break;
            case "step":
                given[5] = random.nextInt(3) == 0 ? NameRows.NONE : given[5];
                break;
            case "show":
                given[1] = random.nextInt(3) == 0 ? NameRows.NONE : given[1];
                break;
            case "lay":
                given[2] = random.nextInt(4) == 0 ? random.nextInt() : given[2];
                break;
            default:
                break;
        }
        return given;
    }

    /** The first number that is above what each argument is mostly given. */
    private int[] bounds(String name) {
        int m = Math.max(1, model.count(1));
        int w = Math.max(1, model.count(2));
        int n = model.count(0) + 1;
        switch (name) {
            case "place": return new int[] {3, 5};
            case "cut": return new int[] {n + 1};
            case "first": return new int[] {n};
            case "machine": return new int[] {7, 3};
            case "step": return new int[] {m, 5, 3, 3, 5, 2};
            case "good": return new int[] {m, 6, 2};
            case "told": return new int[] {m, 4};
            case "stepOf": return new int[] {m, 6, 3, 3, 3};
            case "turned": case "doomed": case "shortest": case "watch": return new int[] {m};
            case "both": return new int[] {m, m, 3};
            case "takes": return new int[] {m, n};
            case "ran": return new int[] {m, n, 4};
            case "orbits": return new int[] {m, 3};
            case "shortestAt": return new int[] {m, 5, 2};
            case "parts": case "within": case "show": return new int[] {m, m};
            case "partsAt": return new int[] {m, m, 4, 2};
            case "see": return new int[] {w, 3, 4};
            case "seen": return new int[] {w, 4};
            case "sheet": return new int[] {4, 3, 62};
            case "lay": return new int[] {4, 12, 3};
            case "scan": return new int[] {4, 3, 12, 8};
            case "count": return new int[] {6};
            default: return new int[0];
        }
    }
}
