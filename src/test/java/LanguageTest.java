import java.io.IOException;
import java.lang.reflect.Field;
import java.lang.reflect.Method;
import java.lang.reflect.Modifier;
import java.nio.file.Files;
import java.nio.file.Path;
import java.util.Arrays;
import java.util.Map;
import java.util.Set;
import java.util.TreeMap;
import java.util.TreeSet;
import java.util.regex.Matcher;
import java.util.regex.Pattern;

/** The public face of the document, and the rules of LANGUAGE.md that can be seen without judgement. */
public final class LanguageTest extends Checks {
    private static final Class<?> CLASS = TimestampCoherence.class;
    private static final Path SOURCE = Path.of("src/main/java/TimestampCoherence.java");

    private static final String[] CONSTANTS = {
        "BAD", "WAITING", "FULL", "NO_ROOM", "NOTHING",
        "DONE", "SENT", "BOUNCED", "RENEWED", "SUPPLIED", "DROPPED", "RETURNED", "YIELDED", "IGNORED",
        "IDLE", "ASKING", "LOAD", "STORE", "ADD", "ABSENT", "LEASED", "OWNED",
        "STATE", "KIND", "CORE", "ADDRESS", "OPERAND", "VALUE", "TIME", "WRITTEN", "UNTIL", "OWNER", "LATEST",
        "RETURNING"};

    private static final String[] METHODS = {
        "int issue[int, int, int, int]", "int evict[int, int]", "int advance[int, int]",
        "int deliverRequest[int]", "int deliverReply[int]", "int deliverRecall[int, int]",
        "int deliverWriteBack[int]", "int clock[int]", "int pending[int, int]", "int copy[int, int, int]",
        "boolean recallFlying[int, int]", "int line[int, int]", "int commits[]", "int log[int, int]",
        "int ordered[int]"};

    private static final String FORBIDDEN = "\\b(import|package|null|throw|throws|try|catch|finally|synchronized"
            + "|assert|instanceof|float|double|enum|interface|record|protected|var|String|Math|Integer|Long|System"
            + "|Arrays|Object|Character|Boolean)\\b|->|::|\\[\\s*\\]\\s*\\[";

    public static void main(String[] args) throws ReflectiveOperationException, IOException {
        publicFace();
        constants();
        methods();
        fields();
        String code = codeWithoutComments();
        noForbiddenWord(code);
        arraysAreMadeInInitialisers(code);
        noCallInsideArguments(code);
        everyLoopCounts(code);
        Map<String, String> bodies = bodies(code);
        methodsStayShort(bodies);
        callsEndAndStayShallow(bodies);
        finish();
    }

    private static void publicFace() {
        same(CLASS.getModifiers(), Modifier.PUBLIC | Modifier.FINAL);
        same(CLASS.getPackageName(), "");
        same(CLASS.getSuperclass(), Object.class);
        same(CLASS.getInterfaces().length, 0);
        same(CLASS.getDeclaredClasses().length, 0);
        same(CLASS.getDeclaredConstructors().length, 1);
        same(Arrays.toString(CLASS.getDeclaredConstructors()),
                "[public TimestampCoherence(int,int,int,int)]");
    }

    private static void constants() throws ReflectiveOperationException {
        Set<String> found = new TreeSet<>();
        for (Field field : CLASS.getDeclaredFields()) {
            if (!Modifier.isPrivate(field.getModifiers())) {
                found.add(field.getName());
            }
        }
        same(found, new TreeSet<>(Arrays.asList(CONSTANTS)));
        for (String name : CONSTANTS) {
            Field field = CLASS.getDeclaredField(name);
            same(field.getModifiers(), Modifier.PUBLIC | Modifier.STATIC | Modifier.FINAL);
            same(field.getType(), int.class);
            same(name + " " + field.getInt(null), name + " " + Checks.class.getDeclaredField(name).getInt(null));
        }
    }

    private static void methods() {
        Set<String> open = new TreeSet<>();
        Set<String> openNames = new TreeSet<>();
        for (Method method : CLASS.getDeclaredMethods()) {
            if (!Modifier.isPrivate(method.getModifiers())) {
                same(method.getModifiers(), Modifier.PUBLIC);
                open.add(method.getReturnType() + " " + method.getName() + Arrays.toString(method.getParameterTypes()));
                openNames.add(method.getName());
            }
        }
        same(open, new TreeSet<>(Arrays.asList(METHODS)));
        for (Method method : CLASS.getDeclaredMethods()) {
            if (Modifier.isPrivate(method.getModifiers())) {
                same(openNames.contains(method.getName()), false);
            }
            same(method.getParameterCount() <= 7, true);
            same(method.getReturnType().isArray(), false);
        }
    }

    private static void fields() {
        int own = 0;
        for (Field field : CLASS.getDeclaredFields()) {
            Class<?> type = field.getType();
            if (Modifier.isStatic(field.getModifiers())) {
                same(type == int.class || type == long.class, true);
                same(Modifier.isFinal(field.getModifiers()), true);
            } else {
                own++;
                Class<?> element = type.isArray() ? type.getComponentType() : type;
                same(element.isPrimitive() && element != float.class && element != double.class, true);
                same(type.isArray() && !Modifier.isFinal(field.getModifiers()), false);
            }
        }
        same(own <= 40, true);
    }

    private static String codeWithoutComments() throws IOException {
        return Files.readString(SOURCE).replaceAll("(?s)/\\*.*?\\*/", "").replaceAll("//[^\n]*", "");
    }

    private static void noForbiddenWord(String code) {
        Matcher matcher = Pattern.compile(FORBIDDEN).matcher(code);
        same(matcher.find() ? matcher.group() : "none", "none");
    }

    private static void arraysAreMadeInInitialisers(String code) {
        String field = "(?m)^    private final \\w+\\[\\] \\w+ = new \\w+\\[\\w+\\];$";
        same(code.replaceAll(field, "").contains("new "), false);
    }

    private static void noCallInsideArguments(String code) {
        Matcher call = Pattern.compile("(\\w+)\\s*\\(").matcher(code);
        while (call.find()) {
            if (!call.group(1).matches("if|for|while|switch|return")) {
                String arguments = enclosed(code, call.end(), '(', ')');
                same(call.group(1) + "(" + arguments.replaceAll("\\w+\\s*\\(", "CALL("),
                        call.group(1) + "(" + arguments);
            }
        }
    }

    /** Rule 8, in its plainest form: a counter goes up by one to a bound that the loop does not change. */
    private static void everyLoopCounts(String code) {
        same(Pattern.compile("\\b(while|do)\\b").matcher(code).find(), false);
        Matcher loop = Pattern.compile("\\bfor \\((.*)\\) \\{").matcher(code);
        while (loop.find()) {
            String body = enclosed(code, loop.end(), '{', '}');
            Matcher head = Pattern.compile("int (\\w+) = 0; \\1 < (\\w+); \\1\\+\\+").matcher(loop.group(1));
            same(loop.group(1) + " counts: " + head.matches(), loop.group(1) + " counts: true");
            if (head.matches()) {
                String changed = "\\b(" + head.group(1) + "|" + head.group(2) + ")\\s*(\\+\\+|--|[-+*/%&|^]?=[^=])";
                same(Pattern.compile(changed).matcher(body).find(), false);
            }
        }
    }

    /** Each method's and the constructor's text, by name. */
    private static Map<String, String> bodies(String code) {
        Map<String, String> bodies = new TreeMap<>();
        String form = "(?ms)^    (?:public|private) [^;=]*?(\\w+)\\([^)]*\\) \\{$(.*?)^    \\}$";
        Matcher method = Pattern.compile(form).matcher(code);
        while (method.find()) {
            same(method.group(1) + " " + bodies.put(method.group(1), method.group(2)), method.group(1) + " null");
        }
        same(bodies.size(), CLASS.getDeclaredMethods().length + 1);
        return bodies;
    }

    /** Rule 10: "Methods stay short (some sixty lines)" */
    private static void methodsStayShort(Map<String, String> bodies) {
        for (Map.Entry<String, String> method : bodies.entrySet()) {
            same(method.getKey() + " is short: " + (method.getValue().lines().count() <= 60),
                    method.getKey() + " is short: true");
        }
    }

    /** Rule 8: "No recursion", and rule 10: "calls go at most six deep". A path of calls that recurs is longer. */
    private static void callsEndAndStayShallow(Map<String, String> bodies) {
        Set<String> reached = new TreeSet<>(bodies.keySet());
        int deep = 0;
        while (!reached.isEmpty() && deep <= 6) {
            deep++;
            Set<String> next = new TreeSet<>();
            for (String name : reached) {
                next.addAll(calledIn(bodies.get(name), bodies.keySet()));
            }
            reached = next;
        }
        same(deep <= 6 ? "at most six deep" : "too deep: " + reached, "at most six deep");
    }

    private static Set<String> calledIn(String body, Set<String> names) {
        Set<String> called = new TreeSet<>();
        Matcher call = Pattern.compile("(\\w+)\\s*\\(").matcher(body);
        while (call.find()) {
            if (names.contains(call.group(1))) {
                called.add(call.group(1));
            }
        }
        return called;
    }

    /** The text from just behind an opening bracket up to the one that closes it. */
    private static String enclosed(String code, int start, char opening, char closing) {
        int depth = 1;
        int end = start;
        while (depth > 0) {
            char c = code.charAt(end);
            depth += c == opening ? 1 : c == closing ? -1 : 0;
            end++;
        }
        return code.substring(start, end - 1);
    }
}
