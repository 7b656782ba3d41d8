import java.lang.reflect.Constructor;
import java.lang.reflect.Field;
import java.lang.reflect.Method;
import java.lang.reflect.Modifier;
import java.util.Arrays;
import java.util.TreeSet;

/** The public face: what the document writes, with its exceptions, and nothing beside it. */
public final class FaceTest {
    private static final String[] FACE = {
        "int print(int, int) IllegalArgumentException",
        "long average(int) IllegalArgumentException ArithmeticException",
        "long get(int) IllegalArgumentException",
        "long reckon(int, int, int, int) IllegalArgumentException UnsupportedOperationException ArithmeticException",
        "long round(int, int, int) IllegalArgumentException ArithmeticException",
        "long set(int, long) IllegalArgumentException",
        "long turn(int, int, int) IllegalArgumentException ArithmeticException",
    };

    public static void main(String[] args) {
        Check check = new Check();
        Class<?> desk = TenThousandthDesk.class;
        check.same("the class", "public final", Modifier.toString(desk.getModifiers()));

        Constructor<?>[] constructors = desk.getDeclaredConstructors();
        check.same("constructors", "1", Integer.toString(constructors.length));
        check.same("the constructor", "public TenThousandthDesk()", constructors[0].toString());

        TreeSet<String> visible = new TreeSet<>();
        TreeSet<String> publicNames = new TreeSet<>();
        for (Method m : desk.getDeclaredMethods()) {
            if (!Modifier.isPrivate(m.getModifiers())) {
                visible.add(told(m));
                publicNames.add(m.getName());
            }
        }
        check.same("methods", new TreeSet<>(Arrays.asList(FACE)).toString(), visible.toString());
        for (Method m : desk.getDeclaredMethods()) {
            if (Modifier.isPrivate(m.getModifiers())) {
                check.same("private " + m.getName() + " named as a public one", "false",
                        Boolean.toString(publicNames.contains(m.getName())));
            }
        }
        for (Field f : desk.getDeclaredFields()) {
            check.same("field " + f.getName() + " is private", "true",
                    Boolean.toString(Modifier.isPrivate(f.getModifiers())));
            check.same("field " + f.getName() + " is final if static", "true",
                    Boolean.toString(!Modifier.isStatic(f.getModifiers()) || Modifier.isFinal(f.getModifiers())));
        }
        check.end();
    }

    private static String told(Method m) {
        StringBuilder text = new StringBuilder();
        text.append(m.getReturnType()).append(' ').append(m.getName()).append('(');
        for (int i = 0; i < m.getParameterTypes().length; i++) {
            text.append(i == 0 ? "" : ", ").append(m.getParameterTypes()[i]);
        }
        text.append(')');
        for (Class<?> e : m.getExceptionTypes()) {
            text.append(' ').append(e.getSimpleName());
        }
        return text.toString();
    }
}
