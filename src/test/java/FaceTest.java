import java.lang.reflect.Constructor;
import java.lang.reflect.Method;
import java.lang.reflect.Modifier;
import java.util.Set;
import java.util.TreeSet;

/** The class has the face of the document, and no other member that can be seen from outside. */
public final class FaceTest {
    private static final Check CHECK = new Check("FaceTest");
    private static final String INDEX = "IndexOutOfBoundsException";
    private static final String ARGUMENT = "IllegalArgumentException";
    private static final String STATE = "IllegalStateException";

    public static void main(String[] args) {
        Set<String> due = new TreeSet<>();
        due.add(method("int feed", 5, STATE));
        due.add(method("int trim", 1, ARGUMENT));
        due.add(method("int teach", 0));
        due.add(method("int errorAt", 0));
        due.add(method("int count", 1, INDEX));
        due.add(method("int setWeather", 3, INDEX, ARGUMENT));
        due.add(method("int set", 4, INDEX, ARGUMENT));
        due.add(method("int stack", 4, INDEX, ARGUMENT, STATE));
        due.add(method("int cell", 3, INDEX));
        due.add(method("int gang", 2, INDEX));
        due.add(method("int pass", 1, ARGUMENT));
        due.add(method("int foresee", 2, ARGUMENT, INDEX));
        due.add(method("int dries", 2, INDEX));
        due.add(method("int done", 1, INDEX));
        due.add(method("int advise", 1, ARGUMENT));
        due.add(method("int draw", 0));
        due.add(method("int byteAt", 1, INDEX));
        due.add(method("double share", 0));
        due.add(method("long digest", 0));
        Set<String> got = new TreeSet<>();
        for (Method method : PeatBog.class.getDeclaredMethods()) {
            if (!Modifier.isPrivate(method.getModifiers()) && !method.isSynthetic()) {
                got.add(textOf(method));
            }
        }
        if (!got.equals(due)) {
            CHECK.complain("the methods are " + got + ", due are " + due);
        }
        Constructor<?>[] constructors = PeatBog.class.getDeclaredConstructors();
        CHECK.same("constructors", constructors.length, 1);
        CHECK.same("public ones", PeatBog.class.getConstructors().length, 1);
        CHECK.same("its parameters", constructors[0].getParameterCount(), 0);
        CHECK.same("public fields", PeatBog.class.getFields().length, 0);
        CHECK.same("a final class", Modifier.isFinal(PeatBog.class.getModifiers()) ? 1 : 0, 1);
        CHECK.finish();
    }

    private static String method(String name, int parameters, String... exceptions) {
        return name + "/" + parameters + String.join(",", exceptions);
    }

    private static String textOf(Method method) {
        Class<?>[] types = method.getExceptionTypes();
        String[] exceptions = new String[types.length];
        for (int i = 0; i < types.length; i++) {
            exceptions[i] = types[i].getSimpleName();
        }
        int numbers = 0;
        for (Class<?> type : method.getParameterTypes()) {
            numbers += type == int.class ? 1 : 100;
        }
        return method(method.getReturnType() + " " + method.getName(), numbers, exceptions);
    }
}
