import java.lang.reflect.Field;
import java.lang.reflect.Method;
import java.lang.reflect.Modifier;
import java.nio.file.Files;
import java.nio.file.Path;
import java.util.ArrayList;
import java.util.List;
import java.util.regex.Matcher;
import java.util.regex.Pattern;

/** Those rules of ../shared/LANGUAGE.md that can be seen from the classes or from single words. */
public final class LanguageTest {
    private static final int MOST_CLASSES = 12;
    private static final int MOST_FIELDS = 20;
    private static final int MOST_PARAMETERS = 7;
    private static final int MOST_LINES_OF_A_METHOD = 60;

    /** Rules 2 to 4, 6 and 13: words and signs of what is left out, or of what the program has no need of. */
    private static final Pattern LEFT_OUT = Pattern.compile("\\b(package|import|throws?|try|catch|finally"
            + "|synchronized|assert|volatile|native|protected|hashCode|toString|Thread|Random|Object)\\b"
            + "|->|::|@|\\bSystem\\.(?!arraycopy)|\\b(Math|Integer)\\.(?!max|min|bitCount)");

    private static final Pattern METHOD = Pattern.compile("( +)(?:[\\w\\[\\]]+ )+\\w+\\([^;]*\\{");

    private final Check check = new Check();

    public static void main(String[] args) throws Exception {
        LanguageTest test = new LanguageTest();
        List<Class<?>> classes = new ArrayList<>(List.of(TrailedDomains.class.getDeclaredClasses()));
        test.checkInside(classes);
        classes.add(TrailedDomains.class);
        test.check.due("rule 11: few classes", classes.size() <= MOST_CLASSES, true);
        for (Class<?> each : classes) {
            test.checkFields(each);
            test.checkMethods(each);
        }
        test.checkSource(Files.readAllLines(Path.of("src/main/java/TrailedDomains.java")));
        test.check.end();
    }

    private void checkInside(List<Class<?>> classes) {
        for (Class<?> each : classes) {
            int modifiers = each.getModifiers();
            check.due("rules 1, 2: " + each + " is static", Modifier.isStatic(modifiers), true);
            boolean isOpen = Modifier.isPublic(modifiers) || Modifier.isProtected(modifiers);
            check.due("rule 1: " + each + " is public or protected", isOpen, false);
            check.due("rule 2: classes inside " + each, each.getDeclaredClasses().length, 0);
        }
    }

    private void checkFields(Class<?> each) {
        int own = 0;
        for (Field field : each.getDeclaredFields()) {
            if (Modifier.isStatic(field.getModifiers())) {
                check.due("rule 5: " + field + " is final", Modifier.isFinal(field.getModifiers()), true);
                check.due("rule 5: " + field + " is an int", field.getType() == int.class, true);
            } else {
                own++;
            }
        }
        check.due("rule 11: few fields in " + each, own <= MOST_FIELDS, true);
    }

    private void checkMethods(Class<?> each) {
        for (Method method : each.getDeclaredMethods()) {
            check.due("rule 11: few parameters of " + method, method.getParameterCount() <= MOST_PARAMETERS, true);
            if (each != TrailedDomains.class) {
                check.due("rule 1: " + method + " has a name of its own", isOfTheFace(method.getName()), false);
            }
        }
    }

    private static boolean isOfTheFace(String name) {
        for (Method method : TrailedDomains.class.getMethods()) {
            if (method.getDeclaringClass() == TrailedDomains.class && method.getName().equals(name)) {
                return true;
            }
        }
        return false;
    }

    private void checkSource(List<String> lines) {
        int methods = 0;
        for (int i = 0; i < lines.size(); i++) {
            String line = lines.get(i);
            boolean isComment = line.strip().startsWith("/*") || line.strip().startsWith("*")
                    || line.strip().startsWith("//");
            if (!isComment) {
                check.due("line " + (i + 1) + " has what is left out", LEFT_OUT.matcher(line).find(), false);
            }
            Matcher method = METHOD.matcher(line);
            if (!isComment && method.matches() && !line.contains(" new ") && !line.contains("else")) {
                methods++;
                int length = lines.subList(i, lines.size()).indexOf(method.group(1) + "}");
                check.due("rule 11: line " + (i + 1) + " begins a short method",
                        length > 0 && length < MOST_LINES_OF_A_METHOD, true);
            }
        }
        check.due("methods were seen", methods > TrailedDomains.class.getDeclaredMethods().length, true);
    }
}
