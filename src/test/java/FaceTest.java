import java.io.IOException;
import java.lang.reflect.Constructor;
import java.lang.reflect.Field;
import java.lang.reflect.Method;
import java.lang.reflect.Modifier;
import java.nio.file.Files;
import java.nio.file.Path;
import java.util.ArrayList;
import java.util.Arrays;
import java.util.HashSet;
import java.util.List;
import java.util.Set;
import java.util.TreeSet;
import java.util.regex.Matcher;
import java.util.regex.Pattern;

/** The public face of the document, and the rules of LANGUAGE.md that a look at the class and its text can check. */
public final class FaceTest {
    private static final Set<String> FACE = new TreeSet<>(List.of(
            "simple 3", "loop 1", "join 2", "depth 0", "discard 0", "procedure 1", "load 2", "run 1", "outcome 0",
            "thrown 0", "register 1", "steps 0", "begun 2", "outs 0", "out 1", "deepest 0"));
    private static final Set<String> CONSTANTS = new TreeSet<>(List.of(
            "BAD_ARG -1", "FULL -2", "TOO_FEW -3", "NONE -4", "BAD_LOOP -5", "DONE 0", "THROWN 1", "TIRED 2",
            "DEEP 3"));
    private static final List<Class<?>> NUMBERS = List.of(
            int.class, long.class, short.class, byte.class, char.class, boolean.class);
    private static final int MOST_PARAMETERS = 7;
    private static final int MOST_FIELDS = 40;
    private static final int MOST_LINES = 60;

    private static int wrong = 0;

    private static void hold(boolean holds, String what) {
        if (!holds) {
            wrong++;
            System.out.println("does not hold: " + what);
        }
    }

    private static boolean isAllowed(Class<?> type) {
        return NUMBERS.contains(type) || type.isArray() && NUMBERS.contains(type.getComponentType());
    }

    private static void checkMethods() {
        Set<String> face = new TreeSet<>();
        Set<String> publicNames = new HashSet<>();
        List<Method> hidden = new ArrayList<>();
        for (Method method : UnwindCode.class.getDeclaredMethods()) {
            String name = method.getName();
            hold(method.getParameterCount() <= MOST_PARAMETERS, name + " has at most seven parameters");
            for (Class<?> type : method.getParameterTypes()) {
                hold(isAllowed(type), name + " takes numbers and arrays of them");
            }
            if (Modifier.isPublic(method.getModifiers())) {
                face.add(name + " " + method.getParameterCount());
                publicNames.add(name);
                hold(method.getReturnType() == int.class, name + " answers an int");
                hold(Arrays.stream(method.getParameterTypes()).allMatch(t -> t == int.class), name + " takes ints");
                hold(!Modifier.isStatic(method.getModifiers()), name + " is not static");
            } else {
                hidden.add(method);
                hold(Modifier.isPrivate(method.getModifiers()), name + " is public or private");
                hold(!method.getReturnType().isArray(), name + " answers no array");
            }
        }
        hold(face.equals(FACE), "the public methods are those of the document: " + face);
        for (Method method : hidden) {
            hold(!publicNames.contains(method.getName()), method.getName() + " bears no public name");
        }
    }

    private static void checkFields() throws IllegalAccessException {
        Set<String> constants = new TreeSet<>();
        int fields = 0;
        for (Field field : UnwindCode.class.getDeclaredFields()) {
            int modifiers = field.getModifiers();
            hold(isAllowed(field.getType()), field.getName() + " is a number or an array of numbers");
            if (Modifier.isPublic(modifiers)) {
                hold(field.getType() == int.class && Modifier.isStatic(modifiers) && Modifier.isFinal(modifiers),
                        field.getName() + " is a constant int");
                constants.add(field.getName() + " " + field.getInt(null));
            } else {
                hold(Modifier.isPrivate(modifiers), field.getName() + " is public or private");
            }
            if (Modifier.isStatic(modifiers)) {
                hold(Modifier.isFinal(modifiers) && !field.getType().isArray(), field.getName() + " is a constant");
            } else {
                fields++;
            }
        }
        hold(constants.equals(CONSTANTS), "the constants are those of the document: " + constants);
        hold(fields <= MOST_FIELDS, "there are at most forty fields: " + fields);
    }

    private static void checkClass() {
        int modifiers = UnwindCode.class.getModifiers();
        hold(Modifier.isPublic(modifiers) && Modifier.isFinal(modifiers), "the class is public and final");
        hold(UnwindCode.class.getPackageName().isEmpty(), "the class has no package");
        hold(UnwindCode.class.getDeclaredClasses().length == 0, "the class has no class inside");
        hold(UnwindCode.class.getSuperclass() == Object.class, "the class extends no other");
        hold(UnwindCode.class.getInterfaces().length == 0, "the class implements nothing");
        Constructor<?>[] constructors = UnwindCode.class.getDeclaredConstructors();
        hold(constructors.length == 1 && constructors[0].getParameterCount() == 0
                && Modifier.isPublic(constructors[0].getModifiers()), "there is one public constructor without arguments");
    }

    private static void checkText() throws IOException {
        String text = Files.readString(Path.of("src/main/java/UnwindCode.java"));
        String code = text.replaceAll("(?s)/\\*.*?\\*/", "").replaceAll("//.*", "");
        Matcher word = Pattern.compile("\\b(import|package|throw|throws|try|catch|finally|synchronized|assert|instanceof"
                + "|float|double|null|Math|Integer|Long|String|System|Arrays|Object|enum|interface|record|extends"
                + "|implements|getClass|hashCode|equals|toString)\\b|->|::|\"|\\[\\]\\[\\]").matcher(code);
        while (word.find()) {
            hold(false, "the text is without " + word.group());
        }
        for (String line : code.split("\n")) {
            hold(!line.contains("new ") || line.matches(" {4}private final int\\[\\] \\w+ = new int\\[[A-Z_]+\\];"),
                    "arrays are made by fields with a constant length: " + line.strip());
        }
        Matcher body = Pattern.compile("(?m)^ {4}(?:public|private)[^;=]*\\{\\n(?s:.*?)^ {4}\\}$").matcher(code);
        int bodies = 0;
        while (body.find()) {
            bodies++;
            hold(body.group().lines().count() <= MOST_LINES, "methods are short: " + body.group().lines().findFirst());
        }
        hold(bodies == UnwindCode.class.getDeclaredMethods().length + 1, "every method was looked at: " + bodies);
    }

    public static void main(String[] args) throws IOException, IllegalAccessException {
        checkClass();
        checkMethods();
        checkFields();
        checkText();
        System.out.println(wrong == 0 ? "the face is as due" : wrong + " things do not hold");
        if (wrong != 0) {
            System.exit(1);
        }
    }
}
