import java.lang.reflect.Method;
import java.lang.reflect.Modifier;
import java.util.Arrays;
import java.util.Comparator;
import java.util.Random;

/** All calls with numbers from far outside, at the edges and within, held against the model; none may throw. */
public final class WildTest {
    private static final int ROUNDS = 60;
    private static final String[] NUMBERS = {
        "0", "1", "2", "3", "4", "5", "6", "7", "30", "31", "39", "40", "41", "59", "60", "61", "-1", "-2", "-3", "NONE",
        "-5", "MIN", "MAX", "2147483646", "-2147483647", "1073741824"
    };
    private static final String[][] SETTINGS = {{}, Setting.BUSY, Setting.MACHINES, Setting.WATCHES, Setting.ROW};

    /** In an order of their own, so that each run of the test makes the same calls. */
    private static final Method[] CALLS = Arrays.stream(NameRows.class.getDeclaredMethods())
        .filter(method -> Modifier.isPublic(method.getModifiers()))
        .sorted(Comparator.comparing(Method::getName)).toArray(Method[]::new);

    public static void main(String[] args) {
        Random random = new Random(1);
        for (int round = 0; round < ROUNDS; round++) {
            Asked real = new Asked();
            Asked model = new Asked(new Model());
            String[] setting = SETTINGS[round % SETTINGS.length];
            for (int i = 0; i < Asked.MOST_CALLS; i++) {
                String call = i < setting.length ? setting[i] : wildCall(random);
                Due.due("round " + round + ", call " + i + ": " + call, real.call(call), model.call(call));
            }
        }
        Due.end();
    }

    private static String wildCall(Random random) {
        Method method = CALLS[random.nextInt(CALLS.length)];
        StringBuilder call = new StringBuilder(method.getName()).append('(');
        // mostly small numbers, so that the first number that is wrong is not always the first one
        int range = random.nextInt(3) == 0 ? NUMBERS.length : 4;
        for (int i = 0; i < method.getParameterCount(); i++) {
            boolean isFlag = method.getParameterTypes()[i] == boolean.class;
            String number = NUMBERS[random.nextInt(random.nextInt(6) == 0 ? NUMBERS.length : range)];
            call.append(i == 0 ? "" : ", ").append(isFlag ? String.valueOf(random.nextBoolean()) : number);
        }
        return call.append(')').toString();
    }
}
