import java.io.IOException;
import java.lang.reflect.Method;
import java.nio.file.Files;
import java.nio.file.Path;
import java.util.Set;
import java.util.TreeSet;
import java.util.regex.Matcher;
import java.util.regex.Pattern;

/** README.md's example answers what stands behind it, and its table of calls names each call of the face. */
public final class ReadmeTest {
    private static final Pattern EXAMPLE = Pattern.compile("x\\.(\\w+)\\((.*?)\\); +// (-?\\d+): .*");
    private static final Pattern NAMED = Pattern.compile("`(\\w+)`");

    public static void main(String[] args) throws IOException, ReflectiveOperationException {
        HermitsSpoon x = new HermitsSpoon();
        int examples = 0;
        Set<String> named = new TreeSet<>();
        for (String line : Files.readAllLines(Path.of("README.md"))) {
            Matcher example = EXAMPLE.matcher(line);
            if (example.matches()) {
                examples++;
                Due.is("README.md: " + line, asked(x, example.group(1), example.group(2)), Long.parseLong(example.group(3)));
            } else {
                Due.that("README.md: told in the form of the others: " + line, !line.startsWith("x."));
            }
            if (line.startsWith("| `")) {
                addNames(named, line.substring(0, line.indexOf('|', 1)));
            }
        }
        Due.that("README.md has an example", examples > 0);
        for (Method call : HermitsSpoon.class.getMethods()) {
            if (call.getDeclaringClass() == HermitsSpoon.class) {
                Due.that("README.md names " + call.getName(), named.contains(call.getName()));
            }
        }
        Due.end();
    }

    private static void addNames(Set<String> named, String cell) {
        Matcher name = NAMED.matcher(cell);
        while (name.find()) {
            named.add(name.group(1));
        }
    }

    private static long asked(HermitsSpoon x, String name, String told) throws ReflectiveOperationException {
        String[] texts = told.isEmpty() ? new String[0] : told.split(", ");
        for (Method call : HermitsSpoon.class.getMethods()) {
            if (call.getName().equals(name) && call.getParameterCount() == texts.length) {
                Object[] arguments = new Object[texts.length];
                for (int i = 0; i < texts.length; i++) {
                    arguments[i] = argument(call.getParameterTypes()[i], texts[i]);
                }
                return ((Number) call.invoke(x, arguments)).longValue();
            }
        }
        throw new NoSuchMethodException(name + "(" + told + ")");
    }

    private static Object argument(Class<?> type, String text) {
        if (type == boolean.class) {
            return Boolean.parseBoolean(text);
        }
        if (type == long.class) {
            return Long.decode(text.replace("L", ""));
        }
        return Integer.decode(text);
    }
}
