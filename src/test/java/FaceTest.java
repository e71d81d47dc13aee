import java.lang.reflect.Constructor;
import java.lang.reflect.Field;
import java.lang.reflect.Method;
import java.lang.reflect.Modifier;
import java.util.Arrays;
import java.util.Set;
import java.util.TreeSet;

/** The public face of the document, and nothing beside it. */
public final class FaceTest {
    private static final Set<String> FACE = Set.of(
            "int variable(int)", "boolean entry(int, int, int, int)", "int differ(int, int, int)",
            "int exceed(int, int, int)", "int total(int, int, int, int)", "int listed(int, int, int, int)",
            "boolean remove(int, int)", "int close()", "int push()", "int pop()", "boolean search()",
            "int advance(int)", "boolean stop()", "int domain(int)", "int supports(int, int, int)",
            "int rules()", "int depth()", "int visits()", "int fails()", "int found()");

    public static void main(String[] args) {
        Check check = new Check();
        Set<String> names = new TreeSet<>();
        Set<String> face = new TreeSet<>();
        for (Method method : TrailedDomains.class.getDeclaredMethods()) {
            if (Modifier.isPublic(method.getModifiers())) {
                face.add(describe(method));
                names.add(method.getName());
            }
        }
        check.due("the public methods " + face, face.equals(FACE), true);
        for (Method method : TrailedDomains.class.getDeclaredMethods()) {
            int modifiers = method.getModifiers();
            boolean isPlain = Modifier.isPublic(modifiers) && !Modifier.isStatic(modifiers);
            boolean isHidden = Modifier.isPrivate(modifiers) && !names.contains(method.getName());
            check.due(method + " is of the face, or private with a name of its own", isPlain || isHidden, true);
        }
        for (Field field : TrailedDomains.class.getDeclaredFields()) {
            check.due(field + " is private", Modifier.isPrivate(field.getModifiers()), true);
        }
        Constructor<?>[] constructors = TrailedDomains.class.getDeclaredConstructors();
        check.due("constructors", constructors.length, 1);
        check.due("the constructor is public", Modifier.isPublic(constructors[0].getModifiers()), true);
        check.due("the constructor's parameters", constructors[0].getParameterCount(), 0);
        check.due("the class is final", Modifier.isFinal(TrailedDomains.class.getModifiers()), true);
        check.due("the class is public", Modifier.isPublic(TrailedDomains.class.getModifiers()), true);
        check.end();
    }

    private static String describe(Method method) {
        String parameters = Arrays.toString(method.getParameterTypes());
        return method.getReturnType() + " " + method.getName()
                + "(" + parameters.substring(1, parameters.length() - 1) + ")";
    }
}
