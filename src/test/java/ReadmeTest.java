import java.io.IOException;
import java.lang.reflect.Method;
import java.lang.reflect.Modifier;
import java.nio.file.Files;
import java.nio.file.Path;
import java.util.HashSet;
import java.util.Set;
import java.util.regex.Matcher;
import java.util.regex.Pattern;

/** README.md tells answers behind its calls: each is asked, from the first line on, of one object. */
public final class ReadmeTest {
    private static final Pattern NEW = Pattern.compile("EiderClimate shore = new EiderClimate\\(\\);");
    private static final Pattern TEXT =
            Pattern.compile("for \\(char sign : \"(.*)\"\\.toCharArray\\(\\)\\) shore\\.feed\\(sign\\);");
    private static final Pattern CALL = Pattern.compile("shore\\.(\\w+)\\(([-0-9, ]*)\\); *// (-?[0-9]+)(:.*)?");

    private static final Due DUE = new Due("ReadmeTest");
    private static final Set<String> asked = new HashSet<>();
    private static EiderClimate shore;

    public static void main(String[] args) throws IOException, ReflectiveOperationException {
        boolean inJava = false;
        for (String line : Files.readAllLines(Path.of("README.md"))) {
            if (line.startsWith("```")) {
                inJava = line.equals("```java");
            } else if (inJava) {
                ask(line);
            }
        }
        for (Method method : EiderClimate.class.getDeclaredMethods()) {
            if (Modifier.isPublic(method.getModifiers())) {
                DUE.holds("README.md shows " + method.getName(), asked.contains(method.getName()));
            }
        }
        DUE.end();
    }

    private static void ask(String line) throws ReflectiveOperationException {
        Matcher text = TEXT.matcher(line);
        Matcher call = CALL.matcher(line);
        if (NEW.matcher(line).matches()) {
            shore = new EiderClimate();
        } else if (text.matches()) {
            asked.add("feed");
            for (char sign : text.group(1).toCharArray()) {
                shore.feed(sign);
            }
        } else if (call.matches()) {
            asked.add(call.group(1));
            DUE.is(line, answer(call.group(1), call.group(2)), Long.parseLong(call.group(3)));
        } else {
            DUE.holds("a line of README.md that can be asked: " + line, false);
        }
    }

    private static long answer(String name, String numbers) throws ReflectiveOperationException {
        String[] told = numbers.isEmpty() ? new String[0] : numbers.split(", *");
        for (Method method : EiderClimate.class.getDeclaredMethods()) {
            if (method.getName().equals(name) && method.getParameterCount() == told.length) {
                Object[] arguments = new Object[told.length];
                for (int i = 0; i < told.length; i++) {
                    long v = Long.parseLong(told[i]);
                    if (method.getParameterTypes()[i] == long.class) {
                        arguments[i] = v;
                    } else {
                        arguments[i] = Math.toIntExact(v);
                    }
                }
                return ((Number) method.invoke(shore, arguments)).longValue();
            }
        }
        throw new NoSuchMethodException(name);
    }
}
