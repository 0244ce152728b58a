import java.io.IOException;
import java.lang.reflect.Method;
import java.nio.file.Files;
import java.nio.file.Path;
import java.util.Set;
import java.util.TreeSet;
import java.util.regex.Matcher;
import java.util.regex.Pattern;

/** The run of calls in README.md gives the answers shown there, and shows each method of the class. */
public final class ReadmeTest {
    private static final Checks CHECKS = new Checks();
    private static final Pattern MAKING = Pattern.compile("ArcCache cache = new ArcCache\\((-?\\d+)\\); +// (.+)");
    private static final Pattern CALL = Pattern.compile("cache\\.(\\w+)\\(([-\\d, ]*)\\); +// (.+)");

    private static final Set<String> SHOWN = new TreeSet<>();
    private static ArcCache cache;

    public static void main(String[] args) throws IOException, ReflectiveOperationException {
        boolean inRun = false;
        for (String line : Files.readAllLines(Path.of("README.md"))) {
            if (line.startsWith("```")) {
                inRun = line.equals("```java");
            } else if (inRun && !line.isBlank()) {
                lineDue(line);
            }
        }
        CHECKS.due("the methods that README.md shows", SHOWN, publicMethods());
        CHECKS.end();
    }

    private static void lineDue(String line) throws ReflectiveOperationException {
        Matcher making = MAKING.matcher(line);
        Matcher call = CALL.matcher(line);
        if (making.matches()) {
            int c = Integer.parseInt(making.group(1));
            cache = new ArcCache(c);
            CHECKS.due("README.md, new ArcCache(" + c + ")", pagesOf(c) + " pages", shownAnswer(making.group(2)));
        } else if (call.matches() && cache != null) {
            String name = call.group(1);
            SHOWN.add(name);
            CHECKS.due("README.md, " + name + "(" + call.group(2) + ")",
                    answer(name, call.group(2)), shownAnswer(call.group(3)));
        } else {
            CHECKS.due("README.md", "not understood: " + line, "a call with its answer");
        }
    }

    /** What stands before the first colon; behind it the README says why. */
    private static String shownAnswer(String comment) {
        return comment.split(":", 2)[0];
    }

    /** Addresses that come once each fill list 1 with all pages. */
    private static int pagesOf(int c) {
        ArcCache filled = new ArcCache(c);
        for (int address = 0; address < 64; address++) {
            filled.read(address);
        }
        return filled.length(1);
    }

    private static String answer(String name, String given) throws ReflectiveOperationException {
        String[] texts = given.isEmpty() ? new String[0] : given.split(", ");
        Object[] numbers = new Object[texts.length];
        Class<?>[] types = new Class<?>[texts.length];
        for (int k = 0; k < texts.length; k++) {
            numbers[k] = Integer.parseInt(texts[k]);
            types[k] = int.class;
        }
        Method method = ArcCache.class.getMethod(name, types);
        Object got = method.invoke(cache, numbers);
        return method.getReturnType() == void.class ? "no answer" : got.toString();
    }

    private static Set<String> publicMethods() {
        Set<String> names = new TreeSet<>();
        for (Method method : ArcCache.class.getMethods()) {
            if (method.getDeclaringClass() == ArcCache.class) {
                names.add(method.getName());
            }
        }
        return names;
    }
}
