import java.io.IOException;
import java.lang.reflect.Field;
import java.lang.reflect.Method;
import java.lang.reflect.Modifier;
import java.nio.file.Files;
import java.nio.file.Path;
import java.util.ArrayList;
import java.util.List;
import java.util.Set;
import java.util.TreeSet;
import java.util.regex.Matcher;
import java.util.regex.Pattern;
import java.util.stream.Collectors;
import java.util.stream.Stream;

/** What README.md says is so: its examples, the public face, the tests of the project. */
public final class ReadmeTest {
    private static final String NEW = "UnwindCode x = new UnwindCode();";
    private static final Pattern EXAMPLE = Pattern.compile("(?s)```java\n(.*?)```");
    private static final Pattern LINE = Pattern.compile("x\\.(\\w+)\\(([^)]*)\\); +// (-?\\w+)(: .*)?");

    private static int wrong = 0;

    private static void hold(boolean holds, String what) {
        if (!holds) {
            wrong++;
            System.out.println("does not hold: " + what);
        }
    }

    private static int answerOf(UnwindCode x, String name, String arguments) throws ReflectiveOperationException {
        List<Object> values = new ArrayList<>();
        List<Class<?>> types = new ArrayList<>();
        for (String argument : arguments.isEmpty() ? new String[0] : arguments.split(", ")) {
            values.add(Integer.valueOf(argument));
            types.add(int.class);
        }
        Method method = UnwindCode.class.getMethod(name, types.toArray(new Class<?>[0]));
        return (Integer) method.invoke(x, values.toArray());
    }

    private static int numberOf(String due) throws ReflectiveOperationException {
        return due.matches("-?\\d+") ? Integer.parseInt(due) : UnwindCode.class.getField(due).getInt(null);
    }

    private static Set<String> checkExamples(String readme) throws ReflectiveOperationException {
        Set<String> called = new TreeSet<>();
        Matcher example = EXAMPLE.matcher(readme);
        while (example.find()) {
            UnwindCode x = null;
            for (String line : example.group(1).split("\n")) {
                Matcher call = LINE.matcher(line);
                if (line.equals(NEW)) {
                    x = new UnwindCode();
                } else if (x != null && call.matches()) {
                    called.add(call.group(1));
                    int answer = answerOf(x, call.group(1), call.group(2));
                    hold(answer == numberOf(call.group(3)), line + ", it answered " + answer);
                } else {
                    hold(false, "a line of an example is a call with its answer: " + line);
                }
            }
        }
        return called;
    }

    private static void checkFaceIsTold(String readme) {
        for (Method method : UnwindCode.class.getDeclaredMethods()) {
            if (Modifier.isPublic(method.getModifiers())) {
                hold(readme.contains("`" + method.getName() + "("), "README.md tells of " + method.getName());
            }
        }
        for (Field field : UnwindCode.class.getDeclaredFields()) {
            if (Modifier.isPublic(field.getModifiers())) {
                hold(readme.contains("`" + field.getName() + "`"), "README.md tells of " + field.getName());
            }
        }
    }

    private static void checkTestsAreTold(String readme) throws IOException {
        Set<String> tests;
        try (Stream<Path> files = Files.list(Path.of("src/test/java"))) {
            tests = files.map(file -> file.getFileName().toString().replace(".java", ""))
                    .collect(Collectors.toCollection(TreeSet::new));
        }
        Set<String> told = new TreeSet<>();
        Matcher name = Pattern.compile("`(\\w+Test)`").matcher(readme);
        while (name.find()) {
            told.add(name.group(1));
        }
        hold(told.equals(tests), "README.md names the tests that there are: " + told + ", there are " + tests);
    }

    public static void main(String[] args) throws IOException, ReflectiveOperationException {
        String readme = Files.readString(Path.of("README.md"));
        Set<String> called = checkExamples(readme);
        hold(called.size() >= 10, "the examples call most of the class: " + called);
        checkFaceIsTold(readme);
        checkTestsAreTold(readme);
        System.out.println(wrong == 0 ? "README.md says what is so" : wrong + " things do not hold");
        if (wrong != 0) {
            System.exit(1);
        }
    }
}
