import java.io.IOException;
import java.lang.reflect.Field;
import java.lang.reflect.Method;
import java.lang.reflect.Modifier;
import java.nio.file.Files;
import java.nio.file.Path;
import java.util.ArrayList;
import java.util.List;
import java.util.TreeSet;
import java.util.regex.Matcher;
import java.util.regex.Pattern;

/** The rules of LANGUAGE.md that can be seen in the text or the shape of the class; run from the project's root. */
public final class RulesTest {
    private static final Checks CHECKS = new Checks();
    private static final Path SOURCE = Path.of("src/main/java/NoisyCodes.java");
    private static final Pattern METHOD = Pattern.compile("^ +[\\w\\[\\] ]*\\w+\\(.*\\)( throws [\\w, ]+)? \\{$");
    private static final Pattern CONSTRUCTOR = Pattern.compile("^ +(public )?[A-Z]\\w*\\(.*\\) \\{$");
    private static final Pattern BLOCK = Pattern.compile("^ +(\\} else )?(if|for|while|switch|do)\\b.*");
    private static final Pattern LIBRARY = Pattern.compile("\\b(System|Arrays|Integer|Long|Math|String|List)\\.(\\w+)");

    public static void main(String[] args) throws IOException {
        List<String> lines = new ArrayList<>();
        for (String line : Files.readAllLines(SOURCE)) {
            lines.add(line.replaceAll("//.*|/\\*\\*.*\\*/", ""));
        }
        rules2And6NoForbiddenWord(lines);
        rule4OnlyTheLibraryThatIsListed(lines);
        rules6And12ThrowsAndObjects(lines);
        rule11ShortMethods(lines);
        rules1To5And11Shapes();
        CHECKS.end("RulesTest");
    }

    private static void rules2And6NoForbiddenWord(List<String> lines) {
        Pattern forbidden = Pattern.compile("->|::|\\b(package|try|catch|finally|synchronized|assert|native|volatile|"
                + "strictfp|transient|Object|Thread|Exact|double|float|var)\\b|static \\{");
        for (String line : lines) {
            CHECKS.sameText("forbidden in: " + line, forbidden.matcher(line).find() ? "found" : "none", "none");
        }
    }

    private static void rule4OnlyTheLibraryThatIsListed(List<String> lines) {
        TreeSet<String> used = new TreeSet<>();
        for (String line : lines) {
            Matcher matcher = LIBRARY.matcher(line);
            while (!line.startsWith("import") && matcher.find()) {
                used.add(matcher.group());
            }
            if (line.startsWith("import")) {
                used.add(line);
            }
        }
        CHECKS.sameText("the library", used.toString(), "[Arrays.fill, Integer.bitCount, System.arraycopy, import java.util.Arrays;]");
    }

    /** Rule 6: no throw in a constructor; rule 12 and the one room: no other method makes an object. */
    private static void rules6And12ThrowsAndObjects(List<String> lines) {
        Pattern thrown = Pattern.compile("throw new (IllegalState|IllegalArgument|IndexOutOfBounds|Arithmetic)Exception\\(\\);");
        boolean inConstructor = false;
        int throwsSeen = 0;
        for (String line : lines) {
            if (METHOD.matcher(line).matches() && !BLOCK.matcher(line).matches()) {
                inConstructor = CONSTRUCTOR.matcher(line).matches();
            }
            if (line.contains("throw ")) {
                throwsSeen++;
                CHECKS.sameText(line, thrown.matcher(line.trim()).matches() && !inConstructor ? "fine" : "not", "fine");
            } else if (line.contains("new ")) {
                CHECKS.sameText(line, inConstructor ? "fine" : "not", "fine");
            }
        }
        CHECKS.same("throws were seen", throwsSeen > 10 ? 1 : 0, 1);
    }

    private static void rule11ShortMethods(List<String> lines) {
        int start = 0;
        int methods = 0;
        for (int i = 0; i < lines.size(); i++) {
            if (METHOD.matcher(lines.get(i)).matches() && !BLOCK.matcher(lines.get(i)).matches()) {
                methods++;
                start = i;
            }
            if (start > 0 && lines.get(i).equals(indentOf(lines.get(start)) + "}")) {
                CHECKS.same("lines of " + lines.get(start), i - start < 60 ? 1 : 0, 1);
                start = 0;
            }
        }
        CHECKS.same("methods were seen", methods > 40 ? 1 : 0, 1);
    }

    private static String indentOf(String line) {
        return line.substring(0, line.length() - line.stripLeading().length());
    }

    private static void rules1To5And11Shapes() {
        Class<?>[] nested = NoisyCodes.class.getDeclaredClasses();
        CHECKS.same("twelve classes at most", nested.length < 12 ? 1 : 0, 1);
        TreeSet<String> face = new TreeSet<>();
        for (Method method : NoisyCodes.class.getDeclaredMethods()) {
            if (Modifier.isPublic(method.getModifiers())) {
                face.add(method.getName());
            }
        }
        shapeIsFine(NoisyCodes.class);
        for (Class<?> inside : nested) {
            CHECKS.same(inside + " is static", inside.getModifiers() & Modifier.STATIC, Modifier.STATIC);
            CHECKS.same(inside + " is not public", inside.getModifiers() & (Modifier.PUBLIC | Modifier.PROTECTED), 0);
            shapeIsFine(inside);
            for (Method method : inside.getDeclaredMethods()) {
                CHECKS.same(method + " has a name of the face", face.contains(method.getName()) ? 1 : 0, 0);
            }
        }
    }

    private static void shapeIsFine(Class<?> shape) {
        int fields = 0;
        for (Field field : shape.getDeclaredFields()) {
            if (Modifier.isStatic(field.getModifiers())) {
                CHECKS.same(field + " is final", field.getModifiers() & Modifier.FINAL, Modifier.FINAL);
                CHECKS.same(field + " is an int", field.getType() == int.class ? 1 : 0, 1);
            } else {
                fields++;
            }
        }
        CHECKS.same(shape + " has twenty fields at most", fields <= 20 ? 1 : 0, 1);
        for (Method method : shape.getDeclaredMethods()) {
            CHECKS.same(method + " takes seven at most", method.getParameterCount() <= 7 ? 1 : 0, 1);
        }
    }
}
