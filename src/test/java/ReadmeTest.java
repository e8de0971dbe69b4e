import java.io.IOException;
import java.lang.reflect.Method;
import java.lang.reflect.Modifier;
import java.nio.file.Files;
import java.nio.file.Path;
import java.util.regex.Matcher;
import java.util.regex.Pattern;

/** README.md: the calls of its example answer what stands beside them, and it names the whole public face. */
public final class ReadmeTest extends Checks {
    private static final Pattern MADE = Pattern.compile("x = new TimestampCoherence\\(([^)]*)\\);");
    private static final Pattern CALL = Pattern.compile("x\\.(\\w+)\\(([^)]*)\\);\\s*// (-?\\w+)");

    public static void main(String[] args) throws IOException, ReflectiveOperationException {
        String text = Files.readString(Path.of("README.md"));
        exampleAnswersAsTold(text);
        everyMethodIsNamed(text);
        finish();
    }

    private static void exampleAnswersAsTold(String text) throws ReflectiveOperationException {
        Matcher made = MADE.matcher(text);
        same(made.find(), true);
        Object[] sizes = numbers(made.group(1));
        TimestampCoherence x = (TimestampCoherence) TimestampCoherence.class.getConstructors()[0].newInstance(sizes);
        Matcher call = CALL.matcher(text);
        int calls = 0;
        while (call.find()) {
            calls++;
            Object got = methodNamed(call.group(1)).invoke(x, numbers(call.group(2)));
            same(call.group() + " " + got, call.group() + " " + number(call.group(3)));
        }
        // A call whose answer is told in another form would not be found, and so not be checked.
        same(calls, text.split("(?m)^x\\.", -1).length - 1);
    }

    private static void everyMethodIsNamed(String text) {
        for (Method method : TimestampCoherence.class.getDeclaredMethods()) {
            if (Modifier.isPublic(method.getModifiers())) {
                same(method.getName() + ": " + text.contains("`" + method.getName() + "("),
                        method.getName() + ": true");
            }
        }
    }

    private static Method methodNamed(String name) throws ReflectiveOperationException {
        for (Method method : TimestampCoherence.class.getDeclaredMethods()) {
            if (method.getName().equals(name)) {
                return method;
            }
        }
        throw new NoSuchMethodException(name);
    }

    private static Object[] numbers(String listed) throws ReflectiveOperationException {
        String[] words = listed.isEmpty() ? new String[0] : listed.split(",\\s*");
        Object[] all = new Object[words.length];
        for (int i = 0; i < words.length; i++) {
            all[i] = number(words[i].replace("TimestampCoherence.", ""));
        }
        return all;
    }

    /** The document's number for a name, taken from Checks, so that the class does not vouch for itself. */
    private static int number(String word) throws ReflectiveOperationException {
        return word.matches("-?\\d+") ? Integer.parseInt(word) : Checks.class.getDeclaredField(word).getInt(null);
    }
}
