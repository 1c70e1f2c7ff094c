import java.io.IOException;
import java.lang.reflect.Constructor;
import java.lang.reflect.Field;
import java.lang.reflect.Method;
import java.lang.reflect.Modifier;
import java.nio.file.Files;
import java.nio.file.Path;
import java.util.ArrayList;
import java.util.Arrays;
import java.util.HashMap;
import java.util.HashSet;
import java.util.List;
import java.util.Map;
import java.util.Set;
import java.util.TreeMap;
import java.util.TreeSet;
import java.util.regex.Matcher;
import java.util.regex.Pattern;

/** The public face of the document, and the rules of LANGUAGE.md that a look at the class and its text can check. */
public final class FaceTest {
    private static final Set<String> FACE = new TreeSet<>(List.of(
            "simple 3", "loop 1", "join 2", "depth 0", "discard 0", "procedure 1", "load 2", "run 1", "outcome 0",
            "thrown 0", "register 1", "steps 0", "begun 2", "outs 0", "out 1", "deepest 0"));
    private static final Set<String> CONSTANTS = new TreeSet<>(List.of(
            "BAD_ARG -1", "FULL -2", "TOO_FEW -3", "NONE -4", "BAD_LOOP -5", "DONE 0", "THROWN 1", "TIRED 2",
            "DEEP 3"));
    private static final List<Class<?>> NUMBERS = List.of(
            int.class, long.class, short.class, byte.class, char.class, boolean.class);
    private static final int MOST_PARAMETERS = 7;
    private static final int MOST_FIELDS = 40;
    private static final int MOST_LINES = 60;
    private static final int MOST_CALLS_DEEP = 6;
    private static final Pattern CALL = Pattern.compile("\\b(\\w+)\\(");

    private static int wrong = 0;

    private static void hold(boolean holds, String what) {
        if (!holds) {
            wrong++;
            System.out.println("does not hold: " + what);
        }
    }

    private static boolean isAllowed(Class<?> type) {
        return NUMBERS.contains(type) || type.isArray() && NUMBERS.contains(type.getComponentType());
    }

    private static void checkMethods() {
        Set<String> face = new TreeSet<>();
        Set<String> publicNames = new HashSet<>();
        List<Method> hidden = new ArrayList<>();
        for (Method method : UnwindCode.class.getDeclaredMethods()) {
            String name = method.getName();
            hold(method.getParameterCount() <= MOST_PARAMETERS, name + " has at most seven parameters");
            for (Class<?> type : method.getParameterTypes()) {
                hold(isAllowed(type), name + " takes numbers and arrays of them");
            }
            if (Modifier.isPublic(method.getModifiers())) {
                face.add(name + " " + method.getParameterCount());
                publicNames.add(name);
                hold(method.getReturnType() == int.class, name + " answers an int");
                hold(Arrays.stream(method.getParameterTypes()).allMatch(t -> t == int.class), name + " takes ints");
                hold(!Modifier.isStatic(method.getModifiers()), name + " is not static");
            } else {
                hidden.add(method);
                hold(Modifier.isPrivate(method.getModifiers()), name + " is public or private");
                hold(!method.getReturnType().isArray(), name + " answers no array");
            }
        }
        hold(face.equals(FACE), "the public methods are those of the document: " + face);
        for (Method method : hidden) {
            hold(!publicNames.contains(method.getName()), method.getName() + " bears no public name");
        }
    }

    private static void checkFields() throws IllegalAccessException {
        Set<String> constants = new TreeSet<>();
        int fields = 0;
        for (Field field : UnwindCode.class.getDeclaredFields()) {
            int modifiers = field.getModifiers();
            hold(isAllowed(field.getType()), field.getName() + " is a number or an array of numbers");
            if (Modifier.isPublic(modifiers)) {
                hold(field.getType() == int.class && Modifier.isStatic(modifiers) && Modifier.isFinal(modifiers),
                        field.getName() + " is a constant int");
                constants.add(field.getName() + " " + field.getInt(null));
            } else {
                hold(Modifier.isPrivate(modifiers), field.getName() + " is public or private");
            }
            if (Modifier.isStatic(modifiers)) {
                hold(Modifier.isFinal(modifiers), field.getName() + " is a constant");
                hold(field.getType() == int.class || field.getType() == long.class, field.getName() + " is an int or long");
            } else {
                fields++;
            }
        }
        hold(constants.equals(CONSTANTS), "the constants are those of the document: " + constants);
        hold(fields <= MOST_FIELDS, "there are at most forty fields: " + fields);
    }

    private static void checkClass() {
        int modifiers = UnwindCode.class.getModifiers();
        hold(Modifier.isPublic(modifiers) && Modifier.isFinal(modifiers), "the class is public and final");
        hold(UnwindCode.class.getPackageName().isEmpty(), "the class has no package");
        hold(UnwindCode.class.getDeclaredClasses().length == 0, "the class has no class inside");
        hold(UnwindCode.class.getSuperclass() == Object.class, "the class extends no other");
        hold(UnwindCode.class.getInterfaces().length == 0, "the class implements nothing");
        Constructor<?>[] constructors = UnwindCode.class.getDeclaredConstructors();
        hold(constructors.length == 1 && constructors[0].getParameterCount() == 0
                && Modifier.isPublic(constructors[0].getModifiers()), "there is one public constructor without arguments");
    }

    private static String code() throws IOException {
        String text = Files.readString(Path.of("src/main/java/UnwindCode.java"));
        return text.replaceAll("(?s)/\\*.*?\\*/", "").replaceAll("//.*", "");
    }

    private static void checkWords(String code) {
        Matcher word = Pattern.compile("\\b(import|package|throw|throws|try|catch|finally|synchronized|assert|instanceof"
                + "|float|double|null|Math|Integer|Long|String|System|Arrays|Object|enum|interface|record|extends"
                + "|implements|getClass|hashCode|equals|toString)\\b|->|::|\"|\\[\\]\\[\\]").matcher(code);
        while (word.find()) {
            hold(false, "the text is without " + word.group());
        }
        for (String line : code.split("\n")) {
            hold(!line.contains("new ") || line.matches(" {4}private final int\\[\\] \\w+ = new int\\[[A-Z_]+\\];"),
                    "arrays are made by fields with a constant length: " + line.strip());
        }
    }

    private static void checkLoops(String code) {
        Pattern counted = Pattern.compile(" *for \\(int (\\w+) = [^;]+; \\1 (<|>=) [^;]+; \\1(\\+\\+|--)\\) \\{");
        for (String line : code.split("\n")) {
            if (line.matches(".*\\b(for|while|do)\\b.*")) {
                hold(counted.matcher(line).matches(), "a loop has a counter against a bound: " + line.strip());
            }
        }
    }

    private static Map<String, String> bodies(String code) {
        Map<String, String> bodies = new TreeMap<>();
        Matcher body = Pattern.compile("(?m)^ {4}(?:public|private)[^;=(]*?(\\w+)\\([^;=]*?\\) \\{\\n((?s:.*?))^ {4}\\}$")
                .matcher(code);
        while (body.find()) {
            bodies.put(body.group(1), body.group(2));
            hold(body.group().lines().count() <= MOST_LINES, body.group(1) + " is short");
        }
        hold(bodies.size() == UnwindCode.class.getDeclaredMethods().length + 1, "every method was looked at: " + bodies.keySet());
        return bodies;
    }

    private static String arguments(String body, int from) {
        int open = 1;
        int end = from;
        while (open > 0) {
            open += body.charAt(end) == '(' ? 1 : body.charAt(end) == ')' ? -1 : 0;
            end++;
        }
        return body.substring(from, end - 1);
    }

    private static Set<String> callsIn(String text, Set<String> methods) {
        Set<String> calls = new TreeSet<>();
        Matcher call = CALL.matcher(text);
        while (call.find()) {
            if (methods.contains(call.group(1))) {
                calls.add(call.group(1));
            }
        }
        return calls;
    }

    /** How many methods lie on the longest way of calls from this one; path holds those that lead to it. */
    private static int callsDeep(String method, Map<String, Set<String>> calls, List<String> path) {
        if (path.contains(method)) {
            hold(false, "no method calls itself: " + path + " " + method);
            return 0;
        }
        path.add(method);
        int deepest = 0;
        for (String called : calls.get(method)) {
            deepest = Math.max(deepest, callsDeep(called, calls, path));
        }
        path.remove(method);
        return deepest + 1;
    }

    private static void checkCalls(Map<String, String> bodies) {
        Map<String, Set<String>> calls = new HashMap<>();
        bodies.forEach((method, body) -> {
            calls.put(method, callsIn(body, bodies.keySet()));
            Matcher call = CALL.matcher(body);
            while (call.find()) {
                if (bodies.containsKey(call.group(1))) {
                    hold(callsIn(arguments(body, call.end()), bodies.keySet()).isEmpty(),
                            "no call stands inside the arguments of " + call.group(1) + " in " + method);
                }
            }
        });
        for (String method : bodies.keySet()) {
            int deep = callsDeep(method, calls, new ArrayList<>());
            hold(deep <= MOST_CALLS_DEEP, "calls go at most six deep: " + method + " " + deep);
        }
    }

    public static void main(String[] args) throws IOException, IllegalAccessException {
        checkClass();
        checkMethods();
        checkFields();
        String code = code();
        checkWords(code);
        checkLoops(code);
        checkCalls(bodies(code));
        System.out.println(wrong == 0 ? "the face is as due" : wrong + " things do not hold");
        if (wrong != 0) {
            System.exit(1);
        }
    }
}
