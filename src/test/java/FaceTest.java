import java.lang.reflect.Constructor;
import java.lang.reflect.Field;
import java.lang.reflect.Method;
import java.lang.reflect.Modifier;
import java.util.Arrays;
import java.util.TreeSet;

/** The public face, member by member, and that nothing else can be seen from outside. */
public final class FaceTest {
    private static final Checks CHECKS = new Checks();
    private static final String[] FACE = {
        "int begin(int, int, int) IllegalArgumentException ArithmeticException",
        "int length() IllegalStateException",
        "int generator() IllegalStateException",
        "int power(int) IllegalStateException IllegalArgumentException",
        "int log(int) IllegalStateException IllegalArgumentException",
        "int times(int, int) IllegalStateException IllegalArgumentException",
        "void put(int, int) IllegalStateException IndexOutOfBoundsException IllegalArgumentException",
        "int get(int) IllegalStateException IndexOutOfBoundsException",
        "int encode() IllegalStateException",
        "int bit(int) IllegalStateException IndexOutOfBoundsException",
        "void burst(int, int) IllegalStateException IndexOutOfBoundsException IllegalArgumentException",
        "int noise(int, int) IllegalStateException IllegalArgumentException",
        "int syndrome(int, int) IllegalStateException IndexOutOfBoundsException",
        "int decode(int) IllegalStateException IllegalArgumentException ArithmeticException",
        "void save(int) IllegalStateException IndexOutOfBoundsException",
        "int load(int) IllegalStateException IndexOutOfBoundsException ArithmeticException",
    };

    public static void main(String[] args) {
        Class<?> face = NoisyCodes.class;
        int modifiers = face.getModifiers();
        CHECKS.same("the class is public and final", modifiers, Modifier.PUBLIC | Modifier.FINAL);
        TreeSet<String> due = new TreeSet<>(Arrays.asList(FACE));
        TreeSet<String> got = new TreeSet<>();
        TreeSet<String> publicNames = new TreeSet<>();
        for (Method method : face.getDeclaredMethods()) {
            if (!Modifier.isPrivate(method.getModifiers())) {
                got.add(shown(method));
                publicNames.add(method.getName());
            }
        }
        CHECKS.sameText("the methods", got.toString(), due.toString());
        for (Method method : face.getDeclaredMethods()) {
            boolean hidden = Modifier.isPrivate(method.getModifiers());
            CHECKS.same(method.getName() + " is a public name", hidden && publicNames.contains(method.getName()) ? 1 : 0, 0);
        }
        for (Field field : face.getDeclaredFields()) {
            CHECKS.same(field.getName() + " is private", field.getModifiers() & Modifier.PRIVATE, Modifier.PRIVATE);
        }
        Constructor<?>[] constructors = face.getDeclaredConstructors();
        CHECKS.same("constructors", constructors.length, 1);
        CHECKS.same("the constructor is public", constructors[0].getModifiers(), Modifier.PUBLIC);
        CHECKS.same("the constructor's parameters", constructors[0].getParameterCount(), 0);
        CHECKS.end("FaceTest");
    }

    private static String shown(Method method) {
        StringBuilder text = new StringBuilder();
        text.append(method.getReturnType().getSimpleName()).append(' ').append(method.getName()).append('(');
        String gap = "";
        for (Class<?> parameter : method.getParameterTypes()) {
            text.append(gap).append(parameter.getSimpleName());
            gap = ", ";
        }
        text.append(')');
        for (Class<?> thrown : method.getExceptionTypes()) {
            text.append(' ').append(thrown.getSimpleName());
        }
        return text.toString();
    }
}
