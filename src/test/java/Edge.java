import java.util.ArrayList;
import java.util.Arrays;
import java.util.List;

/** One sentence of the document that names a boundary case, and calls that hold it. */
final class Edge {
    /** What see() answers of a watch that is done for; the place came all the same. */
    private static final int DONE = -5;

    private final String name;
    private final List<String> setting = new ArrayList<>();
    private final Asked object = new Asked();

    private Edge(int promise, String sentence) {
        name = "promise " + promise + ", " + sentence;
    }

    /** The setting: calls that must not be refused, made on each object of this edge first. */
    static Edge of(int promise, String sentence, String[]... setting) {
        Edge edge = new Edge(promise, sentence);
        for (String[] calls : setting) {
            edge.given(calls);
        }
        return edge;
    }

    Edge given(String... calls) {
        for (String call : calls) {
            setting.add(call);
            int answer = object.call(call);
            Due.due(name + ": refused in the setting: " + call, answer < 0 && answer != DONE ? answer : 0, 0);
        }
        return this;
    }

    /** A call that belongs to the setting from then on. */
    Edge due(String call, int want) {
        setting.add(call);
        Due.due(name + ": " + call, object.call(call), want);
        return this;
    }

    /** A call with its answer behind which all is as on an object on which it was not made. */
    Edge refused(String call, int want) {
        Due.due(name + ": " + call, object.call(call), want);
        Asked touched = inSetting();
        touched.call(call);
        new Twins(name + ": behind " + call, touched, inSetting()).compare();
        return this;
    }

    /** The same refusal of a call, written with a star in the place of each of these values. */
    Edge refusedFor(String call, int want, String... values) {
        Arrays.stream(values).forEach(value -> refused(call.replace("*", value), want));
        return this;
    }

    private Asked inSetting() {
        Asked made = new Asked();
        setting.forEach(made::call);
        return made;
    }
}
