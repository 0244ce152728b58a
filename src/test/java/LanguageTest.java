import java.io.IOException;
import java.lang.reflect.Field;
import java.lang.reflect.Method;
import java.lang.reflect.Modifier;
import java.nio.file.Files;
import java.nio.file.Path;
import java.util.ArrayList;
import java.util.List;
import java.util.Set;
import java.util.TreeSet;
import java.util.regex.Matcher;
import java.util.regex.Pattern;

/** Rules of LANGUAGE.md that the words and the members of the class can show; the others are for a reader. */
public final class LanguageTest {
    private static final Checks CHECKS = new Checks();
    private static final Set<String> NONE = Set.of();
    private static final Set<String> CONSTANT_TYPES = Set.of(
            "int", "long", "boolean", "char", "String", "int[]", "long[]", "char[]", "byte[]");
    private static final Set<String> LIBRARY = Set.of("String", "StringBuilder", "ArrayList", "List", "Integer",
            "Long", "Math", "System", "Arrays", "Iterator", "Iterable", "Comparable");

    private static String source;

    public static void main(String[] args) throws IOException {
        source = withoutComments(Files.readString(Path.of("src/main/java/ArcCache.java")));
        CHECKS.sentence("No private method bears the name of a public one", LanguageTest::privateNames);
        CHECKS.sentence("without a package line", () -> noneFound("\\bpackage\\b"));
        CHECKS.sentence("Rule 2: Classes inside: static nested classes", LanguageTest::classesInside);
        CHECKS.sentence("Rule 2: no lambda, no method reference", () -> noneFound("->|::"));
        CHECKS.sentence("Rule 4: only what stands here", LanguageTest::library);
        CHECKS.sentence("Rule 5: Static fields are final", LanguageTest::staticFields);
        CHECKS.sentence("Rule 5: no static initialiser block", () -> noneFound("\\bstatic\\s*\\{"));
        CHECKS.sentence("Rule 6: No throw, try, catch, synchronized, assert",
                () -> noneFound("\\b(throws?|try|catch|finally|synchronized|assert)\\b"));
        CHECKS.sentence("Rule 6: No equals, hashCode or toString of your own objects",
                () -> noneFound("\\b(equals|hashCode|toString)\\b"));
        CHECKS.sentence("Rule 11: at most seven parameters", LanguageTest::parameters);
        CHECKS.sentence("Rule 11: some twelve classes, and a class some twenty fields", LanguageTest::sizes);
        CHECKS.end();
    }

    private static String withoutComments(String text) {
        return text.replaceAll("(?s)/\\*.*?\\*/", "").replaceAll("//.*", "");
    }

    private static void noneFound(String pattern) {
        CHECKS.due("the source has", found(pattern), NONE);
    }

    private static Set<String> found(String pattern) {
        Set<String> found = new TreeSet<>();
        Matcher matcher = Pattern.compile(pattern).matcher(source);
        while (matcher.find()) {
            found.add(matcher.group());
        }
        return found;
    }

    private static List<Class<?>> classes() {
        List<Class<?>> classes = new ArrayList<>();
        classes.add(ArcCache.class);
        for (int k = 0; k < classes.size(); k++) {
            classes.addAll(List.of(classes.get(k).getDeclaredClasses()));
        }
        return classes;
    }

    private static void privateNames() {
        Set<String> open = new TreeSet<>();
        Set<String> closed = new TreeSet<>();
        for (Method method : ArcCache.class.getDeclaredMethods()) {
            (Modifier.isPublic(method.getModifiers()) ? open : closed).add(method.getName());
        }
        closed.retainAll(open);
        CHECKS.due("names of both", closed, NONE);
    }

    private static void classesInside() {
        List<Class<?>> inside = classes().subList(1, classes().size());
        for (Class<?> nested : inside) {
            int modifiers = nested.getModifiers();
            CHECKS.due(nested.getName() + " is static", Modifier.isStatic(modifiers), true);
            CHECKS.due(nested.getName() + " is seen outside",
                    Modifier.isPublic(modifiers) || Modifier.isProtected(modifiers), false);
        }
        // An anonymous or local class would be written out, but is no declared member.
        CHECKS.due("the word class is there", (source + " ").split("\\bclass\\b").length - 1, classes().size());
    }

    private static void library() {
        Set<String> names = found("\\b[A-Z]\\w*[a-z]\\w*\\b");
        names.removeAll(LIBRARY);
        for (Class<?> own : classes()) {
            names.remove(own.getSimpleName());
        }
        CHECKS.due("names of other classes", names, NONE);
        Set<String> calls = found("\\b(System|Arrays)\\.\\w+|\\bMath\\.random\\b|\\w+Exact\\b");
        calls.removeAll(Set.of("System.arraycopy", "Arrays.copyOf", "Arrays.copyOfRange", "Arrays.fill"));
        CHECKS.due("other calls", calls, NONE);
    }

    private static void staticFields() {
        for (Class<?> each : classes()) {
            for (Field field : each.getDeclaredFields()) {
                if (Modifier.isStatic(field.getModifiers()) && !field.isSynthetic()) {
                    CHECKS.due(field + " is final", Modifier.isFinal(field.getModifiers()), true);
                    CHECKS.due(field + " is a constant",
                            CONSTANT_TYPES.contains(field.getType().getSimpleName()), true);
                }
            }
        }
    }

    private static void parameters() {
        for (Class<?> each : classes()) {
            for (Method method : each.getDeclaredMethods()) {
                CHECKS.due(method + " has few", method.getParameterCount() <= 7, true);
            }
        }
    }

    private static void sizes() {
        CHECKS.due("few classes", classes().size() <= 12, true);
        for (Class<?> each : classes()) {
            int fields = 0;
            for (Field field : each.getDeclaredFields()) {
                fields += Modifier.isStatic(field.getModifiers()) ? 0 : 1;
            }
            CHECKS.due(each.getName() + " has few fields", fields <= 20, true);
        }
    }
}
