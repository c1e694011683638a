import java.io.IOException;
import java.lang.reflect.Method;
import java.lang.reflect.Modifier;
import java.nio.file.Files;
import java.nio.file.Path;
import java.util.TreeSet;
import java.util.regex.Matcher;
import java.util.regex.Pattern;

/** README.md: its example is run line by line, and each call of the face is told; run from the project's root. */
public final class ReadmeTest {
    private static final Checks CHECKS = new Checks();
    private static final Pattern CALL = Pattern.compile("codes\\.(\\w+)\\(([\\d, ]*)\\); +// ((\\d+)\\b)?.*");
    private static final Pattern BLOCK = Pattern.compile("```java\n(.*?)```", Pattern.DOTALL);

    public static void main(String[] args) throws IOException, ReflectiveOperationException {
        String readme = Files.readString(Path.of("README.md"));
        TreeSet<String> called = new TreeSet<>();
        runExample(readme, called);
        TreeSet<String> face = new TreeSet<>();
        for (Method method : NoisyCodes.class.getDeclaredMethods()) {
            if (Modifier.isPublic(method.getModifiers())) {
                face.add(method.getName());
                CHECKS.same(method.getName() + " is told", readme.contains("`" + method.getName() + "(") ? 1 : 0, 1);
            }
        }
        CHECKS.sameText("the calls of the example", called.toString(), face.toString());
        CHECKS.same("how to run the tests is told", readme.contains("`.ci/run`") ? 1 : 0, 1);
        CHECKS.end("ReadmeTest");
    }

    private static void runExample(String readme, TreeSet<String> called) throws ReflectiveOperationException {
        Matcher block = BLOCK.matcher(readme);
        CHECKS.same("there is an example", block.find() ? 1 : 0, 1);
        String[] lines = block.group(1).split("\n");
        CHECKS.sameText("its first line", lines[0], "NoisyCodes codes = new NoisyCodes();");
        NoisyCodes codes = new NoisyCodes();
        for (int i = 1; i < lines.length; i++) {
            Matcher line = CALL.matcher(lines[i]);
            CHECKS.same("a line with a call: " + lines[i], line.matches() ? 1 : 0, 1);
            called.add(line.group(1));
            Object answer = call(codes, line.group(1), line.group(2));
            CHECKS.sameText(lines[i], String.valueOf(answer), String.valueOf(line.group(4)));
        }
    }

    /** A call that answers nothing gives null, as does a line that names no answer. */
    private static Object call(NoisyCodes codes, String name, String list) throws ReflectiveOperationException {
        String[] texts = list.isEmpty() ? new String[0] : list.split(", ");
        Class<?>[] types = new Class<?>[texts.length];
        Object[] arguments = new Object[texts.length];
        for (int i = 0; i < texts.length; i++) {
            types[i] = int.class;
            arguments[i] = Integer.valueOf(texts[i]);
        }
        return NoisyCodes.class.getMethod(name, types).invoke(codes, arguments);
    }
}
