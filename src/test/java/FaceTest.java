import java.lang.reflect.Field;
import java.lang.reflect.Method;
import java.lang.reflect.Modifier;
import java.util.Arrays;
import java.util.Set;
import java.util.TreeSet;

/** The class has the document's face and nothing else that can be seen (rules 1 and 5 of LANGUAGE.md). */
public final class FaceTest {
    private static final String[] FACE = {
        "int feed(int, int, int, int, int) IndexOutOfBoundsException",
        "int end(int) IllegalArgumentException",
        "int read() UnsupportedOperationException",
        "int place() ",
        "int node(int, int) IllegalArgumentException",
        "int part(int, int) IllegalArgumentException, NoSuchElementException",
        "long number(int) IllegalArgumentException, UnsupportedOperationException",
        "int unit(int, int) IllegalArgumentException, NoSuchElementException",
        "boolean same(int, int) IllegalArgumentException, UnsupportedOperationException",
        "int count(int) IllegalArgumentException",
    };

    private static final Probe probe = new Probe();

    public static void main(String[] args) {
        Class<?> face = NotationReader.class;
        probe.due("class", "public final", () -> Modifier.toString(face.getModifiers()));
        probe.due("constructors", "[public NotationReader()]", () -> Arrays.toString(face.getDeclaredConstructors()));
        probe.due("methods", new TreeSet<>(Arrays.asList(FACE)), () -> seenMethods(face));
        probe.due("private methods with a public name", new TreeSet<String>(), () -> hiddenNamesakes(face));
        probe.due("fields that can be seen", new TreeSet<String>(), () -> seenFields(face));
        for (Class<?> inner : face.getDeclaredClasses()) {
            probe.due(inner + " is static", true, () -> Modifier.isStatic(inner.getModifiers()));
            probe.due(inner + " has no changing static", new TreeSet<String>(), () -> changingStatics(inner));
        }
        probe.due("no changing static", new TreeSet<String>(), () -> changingStatics(face));
        probe.finish();
    }

    private static Set<String> seenMethods(Class<?> face) {
        Set<String> seen = new TreeSet<>();
        for (Method method : face.getDeclaredMethods()) {
            if (!Modifier.isPrivate(method.getModifiers())) {
                seen.add(method.getReturnType() + " " + method.getName() + "(" + names(method.getParameterTypes()) + ") "
                        + names(method.getExceptionTypes()));
            }
        }
        return seen;
    }

    private static String names(Class<?>[] types) {
        return String.join(", ", Arrays.stream(types).map(Class::getSimpleName).toList());
    }

    private static Set<String> hiddenNamesakes(Class<?> face) {
        Set<String> found = new TreeSet<>();
        Set<String> open = new TreeSet<>(Arrays.stream(face.getMethods()).map(Method::getName).toList());
        for (Method method : face.getDeclaredMethods()) {
            if (Modifier.isPrivate(method.getModifiers()) && open.contains(method.getName())) {
                found.add(method.getName());
            }
        }
        return found;
    }

    private static Set<String> seenFields(Class<?> face) {
        Set<String> seen = new TreeSet<>();
        for (Field field : face.getDeclaredFields()) {
            if (!Modifier.isPrivate(field.getModifiers())) {
                seen.add(field.getName());
            }
        }
        return seen;
    }

    private static Set<String> changingStatics(Class<?> type) {
        Set<String> found = new TreeSet<>();
        for (Field field : type.getDeclaredFields()) {
            if (Modifier.isStatic(field.getModifiers()) && !Modifier.isFinal(field.getModifiers())) {
                found.add(field.getName());
            }
        }
        return found;
    }
}
