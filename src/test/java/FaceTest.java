import java.lang.reflect.Constructor;
import java.lang.reflect.Field;
import java.lang.reflect.Member;
import java.lang.reflect.Method;
import java.lang.reflect.Modifier;
import java.util.ArrayList;
import java.util.Arrays;
import java.util.List;
import java.util.TreeSet;

/** The class shows the document's face, member for member, and nothing else. */
public final class FaceTest {
    private static final String ARGUMENT = "IllegalArgumentException";
    private static final String INDEX = "IndexOutOfBoundsException";
    private static final String STATE = "IllegalStateException";

    private static final Check check = new Check("FaceTest");
    private static final TreeSet<String> want = new TreeSet<>();

    public static void main(String[] args) {
        listMethods();
        check.same("the class", "public final", Modifier.toString(Districtmeter.class.getModifiers()));
        check.same("the class above it", "Object", Districtmeter.class.getSuperclass().getSimpleName());
        check.same("interfaces", "0", "" + Districtmeter.class.getInterfaces().length);

        List<String> constructors = new ArrayList<>();
        for (Constructor<?> c : Districtmeter.class.getDeclaredConstructors()) {
            constructors.add(Modifier.toString(c.getModifiers()) + " " + c.getParameterCount());
        }
        check.same("constructors", "[public 0]", constructors.toString());

        TreeSet<String> methods = new TreeSet<>();
        TreeSet<String> shownNames = new TreeSet<>();
        for (Method m : Districtmeter.class.getDeclaredMethods()) {
            if (isShown(m)) {
                methods.add(told(m));
                shownNames.add(m.getName());
            }
        }
        check.same("methods", want.toString(), methods.toString());
        for (Method m : Districtmeter.class.getDeclaredMethods()) {
            if (!isShown(m)) {
                check.same("a private method named " + m.getName(), "false", "" + shownNames.contains(m.getName()));
            }
        }
        for (Field f : Districtmeter.class.getDeclaredFields()) {
            check.same("field " + f.getName() + " is shown", "false", "" + isShown(f));
            if (Modifier.isStatic(f.getModifiers())) {
                check.same("static field " + f.getName() + " is final", "true", "" + Modifier.isFinal(f.getModifiers()));
            }
        }
        check.end();
    }

    private static boolean isShown(Member m) {
        return !Modifier.isPrivate(m.getModifiers()) && !m.isSynthetic();
    }

    private static String told(Method m) {
        List<String> parameters = new ArrayList<>();
        for (Class<?> c : m.getParameterTypes()) {
            parameters.add(c.getSimpleName());
        }
        List<String> thrown = new ArrayList<>();
        for (Class<?> c : m.getExceptionTypes()) {
            thrown.add(c.getSimpleName());
        }
        return Modifier.toString(m.getModifiers()) + " " + m.getReturnType().getSimpleName() + " " + m.getName()
            + parameters + thrown;
    }

    private static void method(String answer, String name, int parameters, String... thrown) {
        String[] ints = new String[parameters];
        Arrays.fill(ints, "int");
        want.add("public " + answer + " " + name + Arrays.toString(ints) + Arrays.toString(thrown));
    }

    private static void listMethods() {
        method("int", "addNode", 2, ARGUMENT, INDEX, STATE);
        method("int", "setBackground", 2, ARGUMENT, INDEX);
        method("int", "setPressure", 2, ARGUMENT, INDEX);
        method("boolean", "addMeter", 1, INDEX);
        method("boolean", "toggleValve", 1, INDEX);
        method("boolean", "isSupplied", 1, INDEX);
        method("int", "takes", 1, INDEX);
        method("int", "flow", 1, INDEX, STATE);
        method("int", "allFlow", 0);
        method("int", "addArea", 1, INDEX, STATE);
        method("int", "addExport", 2, INDEX, STATE);
        method("int", "nodes", 1, INDEX);
        method("int", "areaFlow", 1, INDEX, STATE);
        method("int", "areaTakes", 1, INDEX);
        method("int", "loss", 1, INDEX);
        method("int", "steps", 1, INDEX);
        method("int", "stepPipe", 2, INDEX);
        method("int", "drop", 2, INDEX);
        method("int", "burst", 3, ARGUMENT, INDEX, STATE);
        method("int", "repair", 1, INDEX, STATE);
        method("int", "cost", 1, INDEX);
        method("int", "ranked", 1, INDEX);
        method("int", "plan", 1, ARGUMENT);
    }
}
