import java.lang.reflect.Constructor;
import java.lang.reflect.Field;
import java.lang.reflect.Method;
import java.lang.reflect.Modifier;
import java.util.Arrays;
import java.util.Set;
import java.util.TreeSet;

/** The public face, and that nothing besides it can be seen from outside the class. */
public final class FaceTest {
    private static final String[] METHODS = {
        "int advise(int,int) IllegalArgumentException,IndexOutOfBoundsException",
        "int arrives(int) IndexOutOfBoundsException",
        "int assign(int,int) IllegalArgumentException,IndexOutOfBoundsException",
        "int count(int) IndexOutOfBoundsException",
        "int foresee(int,int) IllegalArgumentException,IndexOutOfBoundsException",
        "int hire(int,int) IllegalArgumentException,IllegalStateException",
        "int hole(int) IndexOutOfBoundsException",
        "int letter(int,int) IndexOutOfBoundsException",
        "int pass(int) IllegalArgumentException",
        "int post(int,int) IllegalStateException,IndexOutOfBoundsException",
        "int setStation(int,int,int) IllegalArgumentException,IllegalStateException,IndexOutOfBoundsException",
        "int sorter(int,int) IndexOutOfBoundsException",
        "int station(int,int) IndexOutOfBoundsException",
        "int tea(int) IndexOutOfBoundsException",
        "double share()",
        "long digest()",
    };

    public static void main(String[] args) {
        Check check = new Check("FaceTest");
        int modifiers = NightSorters.class.getModifiers();
        check.same("public final", Modifier.toString(modifiers), "public final");

        Set<String> seen = new TreeSet<>();
        Set<String> hidden = new TreeSet<>();
        for (Method method : NightSorters.class.getDeclaredMethods()) {
            if (Modifier.isPrivate(method.getModifiers())) {
                hidden.add(method.getName());
            } else if (!method.isSynthetic()) {
                seen.add(describe(method));
            }
        }
        check.same("the methods", seen.toString(), new TreeSet<>(Arrays.asList(METHODS)).toString());
        for (Method method : NightSorters.class.getMethods()) {
            check.same("a private " + method.getName(), hidden.contains(method.getName()) ? 1 : 0, 0);
        }

        Constructor<?>[] constructors = NightSorters.class.getDeclaredConstructors();
        check.same("constructors", constructors.length, 1);
        check.same("the constructor", constructors[0].toString(), "public NightSorters()");
        for (Field field : NightSorters.class.getDeclaredFields()) {
            check.same(field.getName() + " is private", Modifier.isPrivate(field.getModifiers()) ? 1 : 0, 1);
            boolean keeps = !Modifier.isStatic(field.getModifiers()) || Modifier.isFinal(field.getModifiers());
            check.same(field.getName() + " is no static variable", keeps ? 1 : 0, 1);
        }
        check.end();
    }

    private static String describe(Method method) {
        Set<String> thrown = new TreeSet<>();
        for (Class<?> type : method.getExceptionTypes()) {
            thrown.add(type.getSimpleName());
        }
        StringBuilder parameters = new StringBuilder();
        for (Class<?> type : method.getParameterTypes()) {
            parameters.append(parameters.length() == 0 ? "" : ",").append(type);
        }
        String head = method.getReturnType() + " " + method.getName() + "(" + parameters + ")";
        return thrown.isEmpty() ? head : head + " " + String.join(",", thrown);
    }
}
