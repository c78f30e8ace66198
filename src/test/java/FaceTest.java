import java.lang.reflect.Constructor;
import java.lang.reflect.Field;
import java.lang.reflect.Method;
import java.lang.reflect.Modifier;
import java.util.Arrays;
import java.util.TreeSet;
import java.util.stream.Collectors;

/** The class has the document's face and nothing else that can be seen from outside. */
public final class FaceTest {
    private static final String[] FACE = {
        "int stop(int, int, int) throws NoSuchElementException, IllegalArgumentException, UnsupportedOperationException",
        "int closed(int, boolean) throws NoSuchElementException",
        "int walk(int) throws IllegalArgumentException, IllegalStateException",
        "int step(int) throws ArrayIndexOutOfBoundsException",
        "int go() throws IllegalStateException",
        "int missing(int) throws NoSuchElementException, IllegalStateException",
        "int left()",
        "int bound()",
        "void cart(int) throws IllegalArgumentException",
        "int full()",
        "int share(int) throws NoSuchElementException, ArithmeticException",
        "int far(int, int) throws NoSuchElementException",
        "int told(int, int) throws NoSuchElementException, IllegalArgumentException",
        "int count(int)",
    };

    public static void main(String[] args) {
        Checks checks = new Checks();
        Class<PickPaths> type = PickPaths.class;
        checks.same("modifiers of the class", Modifier.toString(type.getModifiers()), "public final");
        checks.same("its package", type.getPackageName(), "");

        TreeSet<String> visible = new TreeSet<>();
        TreeSet<String> hidden = new TreeSet<>();
        for (Method method : type.getDeclaredMethods()) {
            if (Modifier.isPrivate(method.getModifiers())) {
                hidden.add(method.getName());
            } else {
                visible.add(Modifier.toString(method.getModifiers()) + " " + face(method));
            }
        }
        TreeSet<String> due = new TreeSet<>();
        for (String line : FACE) {
            due.add("public " + line);
        }
        checks.same("methods", String.join("\n", visible), String.join("\n", due));
        for (Method method : type.getMethods()) {
            checks.same("a private " + method.getName(), String.valueOf(hidden.contains(method.getName())), "false");
        }

        String constructors = Arrays.stream(type.getDeclaredConstructors()).map(Constructor::toString)
            .collect(Collectors.joining("\n"));
        checks.same("constructors", constructors, "public PickPaths(int,int)");

        for (Field field : type.getDeclaredFields()) {
            int modifiers = field.getModifiers();
            checks.same(field + " private", String.valueOf(Modifier.isPrivate(modifiers)), "true");
            if (Modifier.isStatic(modifiers)) {
                checks.same(field + " final", String.valueOf(Modifier.isFinal(modifiers)), "true");
            }
        }
        checks.finish();
    }

    private static String face(Method method) {
        String thrown = names(method.getExceptionTypes());
        return method.getReturnType().getSimpleName() + " " + method.getName()
            + "(" + names(method.getParameterTypes()) + ")" + (thrown.isEmpty() ? "" : " throws " + thrown);
    }

    private static String names(Class<?>[] types) {
        return Arrays.stream(types).map(Class::getSimpleName).collect(Collectors.joining(", "));
    }
}
