import java.io.IOException;
import java.lang.reflect.Field;
import java.lang.reflect.Method;
import java.lang.reflect.Modifier;
import java.nio.file.Files;
import java.nio.file.Path;
import java.util.Arrays;
import java.util.Set;
import java.util.TreeSet;
import java.util.regex.Matcher;
import java.util.regex.Pattern;

/** The public face of the document, and the rules of LANGUAGE.md that can be seen without judgement. */
public final class LanguageTest extends Checks {
    private static final Class<?> CLASS = TimestampCoherence.class;
    private static final Path SOURCE = Path.of("src/main/java/TimestampCoherence.java");

    private static final String[] CONSTANTS = {
        "BAD", "WAITING", "FULL", "NO_ROOM", "NOTHING",
        "DONE", "SENT", "BOUNCED", "RENEWED", "SUPPLIED", "DROPPED", "RETURNED", "YIELDED", "IGNORED",
        "IDLE", "ASKING", "LOAD", "STORE", "ADD", "ABSENT", "LEASED", "OWNED",
        "STATE", "KIND", "CORE", "ADDRESS", "OPERAND", "VALUE", "TIME", "WRITTEN", "UNTIL", "OWNER", "LATEST",
        "RETURNING"};

    private static final String[] METHODS = {
        "int issue[int, int, int, int]", "int evict[int, int]", "int advance[int, int]",
        "int deliverRequest[int]", "int deliverReply[int]", "int deliverRecall[int, int]",
        "int deliverWriteBack[int]", "int clock[int]", "int pending[int, int]", "int copy[int, int, int]",
        "boolean recallFlying[int, int]", "int line[int, int]", "int commits[]", "int log[int, int]",
        "int ordered[int]"};

    private static final String FORBIDDEN = "\\b(import|package|null|throw|throws|try|catch|finally|synchronized"
            + "|assert|instanceof|float|double|enum|interface|record|protected|var|String|Math|Integer|Long|System"
            + "|Arrays|Object|Character|Boolean)\\b|->|::|\\[\\s*\\]\\s*\\[";

    public static void main(String[] args) throws ReflectiveOperationException, IOException {
        publicFace();
        constants();
        methods();
        fields();
        String code = codeWithoutComments();
        noForbiddenWord(code);
        arraysAreMadeInInitialisers(code);
        noCallInsideArguments(code);
        finish();
    }

    private static void publicFace() {
        same(CLASS.getModifiers(), Modifier.PUBLIC | Modifier.FINAL);
        same(CLASS.getPackageName(), "");
        same(CLASS.getSuperclass(), Object.class);
        same(CLASS.getInterfaces().length, 0);
        same(CLASS.getDeclaredClasses().length, 0);
        same(CLASS.getDeclaredConstructors().length, 1);
        same(Arrays.toString(CLASS.getDeclaredConstructors()),
                "[public TimestampCoherence(int,int,int,int)]");
    }

    private static void constants() throws ReflectiveOperationException {
        Set<String> found = new TreeSet<>();
        for (Field field : CLASS.getDeclaredFields()) {
            if (!Modifier.isPrivate(field.getModifiers())) {
                found.add(field.getName());
            }
        }
        same(found, new TreeSet<>(Arrays.asList(CONSTANTS)));
        for (String name : CONSTANTS) {
            Field field = CLASS.getDeclaredField(name);
            same(field.getModifiers(), Modifier.PUBLIC | Modifier.STATIC | Modifier.FINAL);
            same(field.getType(), int.class);
            same(name + " " + field.getInt(null), name + " " + Checks.class.getDeclaredField(name).getInt(null));
        }
    }

    private static void methods() {
        Set<String> open = new TreeSet<>();
        Set<String> openNames = new TreeSet<>();
        for (Method method : CLASS.getDeclaredMethods()) {
            if (!Modifier.isPrivate(method.getModifiers())) {
                same(method.getModifiers(), Modifier.PUBLIC);
                open.add(method.getReturnType() + " " + method.getName() + Arrays.toString(method.getParameterTypes()));
                openNames.add(method.getName());
            }
        }
        same(open, new TreeSet<>(Arrays.asList(METHODS)));
        for (Method method : CLASS.getDeclaredMethods()) {
            if (Modifier.isPrivate(method.getModifiers())) {
                same(openNames.contains(method.getName()), false);
            }
            same(method.getParameterCount() <= 7, true);
            same(method.getReturnType().isArray(), false);
        }
    }

    private static void fields() {
        int own = 0;
        for (Field field : CLASS.getDeclaredFields()) {
            Class<?> type = field.getType();
            if (Modifier.isStatic(field.getModifiers())) {
                same(type == int.class || type == long.class, true);
                same(Modifier.isFinal(field.getModifiers()), true);
            } else {
                own++;
                Class<?> element = type.isArray() ? type.getComponentType() : type;
                same(element.isPrimitive() && element != float.class && element != double.class, true);
                same(type.isArray() && !Modifier.isFinal(field.getModifiers()), false);
            }
        }
        same(own <= 40, true);
    }

    private static String codeWithoutComments() throws IOException {
        return Files.readString(SOURCE).replaceAll("(?s)/\\*.*?\\*/", "").replaceAll("//[^\n]*", "");
    }

    private static void noForbiddenWord(String code) {
        Matcher matcher = Pattern.compile(FORBIDDEN).matcher(code);
        same(matcher.find() ? matcher.group() : "none", "none");
    }

    private static void arraysAreMadeInInitialisers(String code) {
        String field = "(?m)^    private final \\w+\\[\\] \\w+ = new \\w+\\[\\w+\\];$";
        same(code.replaceAll(field, "").contains("new "), false);
    }

    private static void noCallInsideArguments(String code) {
        Matcher call = Pattern.compile("(\\w+)\\s*\\(").matcher(code);
        while (call.find()) {
            if (!call.group(1).matches("if|for|while|switch|return")) {
                String arguments = argumentsFrom(code, call.end());
                same(call.group(1) + "(" + arguments.replaceAll("\\w+\\s*\\(", "CALL("),
                        call.group(1) + "(" + arguments);
            }
        }
    }

    private static String argumentsFrom(String code, int start) {
        int depth = 1;
        int end = start;
        while (depth > 0) {
            char c = code.charAt(end);
            depth += c == '(' ? 1 : c == ')' ? -1 : 0;
            end++;
        }
        return code.substring(start, end - 1);
    }
}
