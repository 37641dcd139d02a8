import java.lang.reflect.Field;
import java.lang.reflect.Member;
import java.lang.reflect.Method;
import java.lang.reflect.Modifier;
import java.util.Arrays;
import java.util.Set;
import java.util.TreeSet;

/** The public face of the document, and that nothing else can be seen of the class. */
public final class FaceTest {
    private static final String[] FACE = {
        "place(int,int)", "cut(int)", "first(int)", "names()", "machine(int,int)", "step(int,int,int,int,int,int)",
        "good(int,int,boolean)", "told(int,int)", "stepOf(int,int,int,int,int)", "drop()", "turned(int)",
        "both(int,int,int)", "takes(int,int)", "ran(int,int,int)", "doomed(int)", "orbits(int,int)", "shortest(int)",
        "shortestAt(int,int,int)", "parts(int,int)", "partsAt(int,int,int,int)", "within(int,int)", "show(int,int)",
        "watch(int)", "see(int,int,int)", "seen(int,int)", "sheet(int,int,int)", "lay(int,int,int)",
        "scan(int,int,int,int)", "count(int)"
    };

    public static void main(String[] args) {
        Due.due("BAD", NameRows.BAD, -1);
        Due.due("STATE", NameRows.STATE, -2);
        Due.due("FULL", NameRows.FULL, -3);
        Due.due("NONE", NameRows.NONE, -4);
        Due.due("public and final", NameRows.class.getModifiers() & (Modifier.PUBLIC | Modifier.FINAL),
            Modifier.PUBLIC | Modifier.FINAL);
        Due.due("constructors", NameRows.class.getDeclaredConstructors().length, 1);
        Due.due("public constructors", NameRows.class.getConstructors().length, 1);
        checkMethods();
        for (Field field : NameRows.class.getDeclaredFields()) {
            boolean constant = Set.of("BAD", "STATE", "FULL", "NONE").contains(field.getName());
            Due.due("to be seen: " + field, isPrivate(field) ? 0 : 1, constant ? 1 : 0);
            boolean statik = Modifier.isStatic(field.getModifiers());
            Due.due("static and not final: " + field, statik && !Modifier.isFinal(field.getModifiers()) ? 1 : 0, 0);
        }
        Due.end();
    }

    private static void checkMethods() {
        Set<String> face = new TreeSet<>(Arrays.asList(FACE));
        Set<String> names = new TreeSet<>();
        for (String call : FACE) {
            names.add(call.substring(0, call.indexOf('(')));
        }
        for (Method method : NameRows.class.getDeclaredMethods()) {
            if (isPrivate(method)) {
                Due.due("private as public: " + method, names.contains(method.getName()) ? 1 : 0, 0);
            } else {
                StringBuilder call = new StringBuilder(method.getName()).append('(');
                for (Class<?> type : method.getParameterTypes()) {
                    call.append(call.charAt(call.length() - 1) == '(' ? "" : ",").append(type.getName());
                }
                Due.due("of the face: " + call.append(')'), face.remove(call.toString()) ? 1 : 0, 1);
                Due.due("answers an int: " + method, method.getReturnType() == int.class ? 1 : 0, 1);
            }
        }
        Due.due("missing of the face: " + face, face.size(), 0);
    }

    private static boolean isPrivate(Member member) {
        return Modifier.isPrivate(member.getModifiers());
    }
}
