import java.lang.reflect.Constructor;
import java.lang.reflect.Field;
import java.lang.reflect.Method;
import java.lang.reflect.Modifier;
import java.util.Arrays;
import java.util.HashSet;
import java.util.List;
import java.util.Set;
import java.util.TreeSet;

/** "The public face", and rules 1 and 5 of LANGUAGE.md. */
public final class FaceTest {
    private static final List<String> FACE = List.of(
            "void present(int) IllegalArgumentException IllegalStateException",
            "void file(int, int, int) IllegalArgumentException IllegalStateException",
            "int depend(int, int, int, int, boolean) IllegalArgumentException IllegalStateException",
            "int relink(int) IllegalArgumentException",
            "int load(int) IllegalArgumentException NoSuchElementException",
            "int unload(int) IllegalArgumentException IllegalStateException",
            "int find(int, int) IllegalArgumentException NoSuchElementException IllegalStateException",
            "int visible(int, int, int)",
            "int why(int, int)",
            "int state(int)",
            "int above(int, int)",
            "int defined()");

    public static void main(String[] args) {
        Check check = new Check("FaceTest");
        Set<String> open = new TreeSet<>();
        Set<String> openNames = new HashSet<>();
        Set<String> closedNames = new HashSet<>();
        for (Method method : FlatLoader.class.getDeclaredMethods()) {
            if (Modifier.isPrivate(method.getModifiers())) {
                closedNames.add(method.getName());
            } else {
                open.add(text(method));
                openNames.add(method.getName());
                check.same(Modifier.PUBLIC, "modifiers of " + method.getName(), method.getModifiers());
            }
        }
        check.same(0, "methods of the face: " + open, open.equals(new TreeSet<>(FACE)) ? 0 : 1);
        closedNames.retainAll(openNames);
        check.same(0, "private methods with the name of a public one: " + closedNames, closedNames.size());
        for (Field field : FlatLoader.class.getDeclaredFields()) {
            int modifiers = field.getModifiers();
            check.same(1, "private: " + field, Modifier.isPrivate(modifiers) ? 1 : 0);
            check.same(1, "a constant if static: " + field,
                    !Modifier.isStatic(modifiers) || Modifier.isFinal(modifiers) && field.getType() == int.class ? 1 : 0);
        }
        Constructor<?>[] constructors = FlatLoader.class.getDeclaredConstructors();
        check.same(1, "constructors", constructors.length);
        check.same(Modifier.PUBLIC, "modifiers of the constructor", constructors[0].getModifiers());
        check.same(0, "parameters of the constructor", constructors[0].getParameterCount());
        check.same(Modifier.PUBLIC | Modifier.FINAL, "modifiers of the class", FlatLoader.class.getModifiers());
        for (Class<?> inside : FlatLoader.class.getDeclaredClasses()) {
            check.same(Modifier.PRIVATE | Modifier.STATIC,
                    "modifiers of " + inside, inside.getModifiers() & ~Modifier.FINAL);
        }
        check.end();
    }

    private static String text(Method method) {
        StringBuilder text = new StringBuilder();
        text.append(method.getReturnType().getSimpleName()).append(' ').append(method.getName());
        text.append(names(method.getParameterTypes(), ", ", "(", ")"));
        for (Class<?> thrown : method.getExceptionTypes()) {
            text.append(' ').append(thrown.getSimpleName());
        }
        return text.toString();
    }

    private static String names(Class<?>[] types, String between, String before, String behind) {
        return before + String.join(between, Arrays.stream(types).map(Class::getSimpleName).toList()) + behind;
    }
}
