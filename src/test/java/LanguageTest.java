import java.io.IOException;
import java.lang.reflect.Field;
import java.lang.reflect.Method;
import java.lang.reflect.Modifier;
import java.nio.file.Files;
import java.nio.file.Path;
import java.util.ArrayList;
import java.util.Arrays;
import java.util.List;
import java.util.Set;
import java.util.TreeSet;
import java.util.regex.Matcher;
import java.util.regex.Pattern;
import java.util.stream.Collectors;

/** Those rules of LANGUAGE.md, by number, that can be read off the source and the compiled classes. */
public final class LanguageTest {
    private static final Path SOURCE = Path.of("src/main/java/PickPaths.java");
    private static final int MOST_LINES = 60;
    private static final int MOST_PARAMETERS = 7;
    private static final int MOST_CLASSES = 12;
    private static final int MOST_FIELDS = 20;

    /** ArrayIndexOutOfBoundsException is not in rule 6's list, but the document's promise 5 names it. */
    private static final Set<String> EXCEPTIONS = Set.of("IllegalStateException", "IllegalArgumentException",
        "IndexOutOfBoundsException", "ArithmeticException", "UnsupportedOperationException", "NoSuchElementException",
        "RuntimeException", "ArrayIndexOutOfBoundsException");
    private static final Set<String> LIBRARY = Set.of("Math", "Integer", "Long", "String", "StringBuilder", "Override");
    /** A try is not ruled out everywhere, but the class needs none. */
    private static final Set<String> FORBIDDEN = Set.of("try", "catch", "finally", "synchronized", "assert", "native",
        "volatile", "transient", "strictfp", "package", "protected");

    private final Checks checks = new Checks();
    private final List<Class<?>> classes = new ArrayList<>();

    private static String codeAlone(String source) {
        return source.replaceAll("(?s)/\\*.*?\\*/", "").replaceAll("//[^\n]*", "")
            .replaceAll("\"(\\\\.|[^\"\\\\\n])*\"", "\"\"");
    }

    private static TreeSet<String> words(String code, String pattern) {
        TreeSet<String> found = new TreeSet<>();
        Matcher matcher = Pattern.compile(pattern).matcher(code);
        while (matcher.find()) {
            found.add(matcher.group(matcher.groupCount()));
        }
        return found;
    }

    private void none(String what, Set<String> found) {
        checks.same(what, found.toString(), "[]");
    }

    private void classesInside() {
        checks.under("rule 1, 2, 11");
        classes.add(PickPaths.class);
        classes.addAll(Arrays.asList(PickPaths.class.getDeclaredClasses()));
        checks.same("too many classes", Math.max(0, classes.size() - MOST_CLASSES), 0);
        Set<String> face = Arrays.stream(PickPaths.class.getDeclaredMethods())
            .filter(method -> Modifier.isPublic(method.getModifiers())).map(Method::getName).collect(Collectors.toSet());
        for (Class<?> type : classes) {
            boolean isInside = type != PickPaths.class;
            boolean isVisible = Modifier.isPublic(type.getModifiers()) || Modifier.isProtected(type.getModifiers());
            checks.same(type + " static and hidden", isInside && (isVisible || !Modifier.isStatic(type.getModifiers()))
                ? 1 : 0, 0);
            for (Method method : type.getDeclaredMethods()) {
                checks.same("parameters too many of " + method,
                    Math.max(0, method.getParameterCount() - MOST_PARAMETERS), 0);
                checks.same(method + " with a name of the face",
                    isInside && face.contains(method.getName()) ? 1 : 0, 0);
            }
        }
    }

    private void fields() {
        checks.under("rule 3, 5, 11");
        for (Class<?> type : classes) {
            int own = 0;
            for (Field field : type.getDeclaredFields()) {
                Class<?> held = field.getType().isArray() ? field.getType().getComponentType() : field.getType();
                checks.same("type of " + field, held.isPrimitive() || classes.contains(held) ? 1 : 0, 1);
                if (Modifier.isStatic(field.getModifiers())) {
                    checks.same(field + " final", Modifier.isFinal(field.getModifiers()) ? 1 : 0, 1);
                    checks.same("a constant " + field, field.getType().isPrimitive() ? 1 : 0, 1);
                } else {
                    own++;
                }
            }
            checks.same("fields too many of " + type, Math.max(0, own - MOST_FIELDS), 0);
        }
    }

    private void wordsOfTheSource(String code) {
        checks.under("rule 3, 4, 6, 13");
        checks.same("imports", words(code, "import ([^;]+);").toString(), "[java.util.NoSuchElementException]");
        TreeSet<String> types = words(code, "\\b[A-Z]\\w*[a-z]\\w*\\b");
        types.removeAll(EXCEPTIONS);
        types.removeAll(LIBRARY);
        classes.forEach(type -> types.remove(type.getSimpleName()));
        none("names outside the rules", types);
        TreeSet<String> small = words(code, "\\b[a-z]+\\b");
        small.retainAll(FORBIDDEN);
        none("words outside the rules", small);
        none("functions of Exact", words(code, "\\w+Exact\\b"));
        checks.under("rule 2");
        none("lambdas and method references", words(code, "->|::"));
    }

    private void exceptions(String source) {
        checks.under("rule 6");
        Matcher thrown = Pattern.compile("\\bthrow\\b[^;]*;").matcher(source);
        while (thrown.find()) {
            Matcher form = Pattern.compile("throw new (\\w+)\\((\"[^\"]*\")?\\);").matcher(thrown.group());
            checks.same(thrown.group(), form.matches() && EXCEPTIONS.contains(form.group(1)) ? 1 : 0, 1);
        }
        Matcher constructor = Pattern.compile("(?s)\n( +)(public )?(PickPaths|[A-Z]\\w+)\\([^)]*\\) \\{\n(.*?)\n\\1}")
            .matcher(source);
        int constructors = 0;
        while (constructor.find()) {
            constructors++;
            checks.same("a throw in " + constructor.group(), constructor.group(4).contains("throw") ? 1 : 0, 0);
        }
        checks.same("a constructor was read", Math.min(1, constructors), 1);
    }

    private void loops(String code) {
        checks.under("rule 9");
        none("loops without an end", words(code, "while \\(true\\)|for \\([^;:]*;\\s*;"));
    }

    /** A method begins with a line that ends in "{" one level inside a class, and ends with "}" as far to the left. */
    private void lengthsOfMethods(List<String> lines) {
        checks.under("rule 11");
        int methods = 0;
        for (int first = 0; first < lines.size(); first++) {
            Matcher head = Pattern.compile("( {4}| {8})(?!.*\\b(class|return|if|for|while|switch|else)\\b)\\w.*\\{")
                .matcher(lines.get(first));
            if (head.matches()) {
                int last = first;
                while (last < lines.size() - 1 && !lines.get(last).equals(head.group(1) + "}")) {
                    last++;
                }
                methods++;
                checks.same(lines.get(first).trim() + " is too long", Math.max(0, last - first + 1 - MOST_LINES), 0);
            }
        }
        checks.same("methods were read", Math.min(20, methods), 20);
    }

    public static void main(String[] args) throws IOException {
        LanguageTest test = new LanguageTest();
        String source = Files.readString(SOURCE);
        String code = codeAlone(source);
        test.classesInside();
        test.fields();
        test.wordsOfTheSource(code);
        test.exceptions(source);
        test.loops(code);
        test.lengthsOfMethods(source.lines().toList());
        test.checks.finish();
    }
}
