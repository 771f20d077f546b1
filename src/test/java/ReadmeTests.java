import java.io.IOException;
import java.lang.reflect.InvocationTargetException;
import java.lang.reflect.Method;
import java.lang.reflect.Modifier;
import java.nio.file.Files;
import java.nio.file.Path;
import java.util.Set;
import java.util.TreeSet;
import java.util.regex.Matcher;
import java.util.regex.Pattern;

/** Runs the lines of Java in README.md, one behind the other on one object: a comment begins with the answer. */
public final class ReadmeTests {
    private static final Pattern CALL = Pattern.compile("s\\.(\\w+)\\(([^)]*)\\);\\s*// (true|false|-?\\d+)(: .*)?");

    private final AreaSetter setter = new AreaSetter();
    private final Set<String> called = new TreeSet<>();
    private int lines = 0;
    private int wrong = 0;

    public static void main(String[] args) throws IOException, ReflectiveOperationException {
        ReadmeTests tests = new ReadmeTests();
        boolean isJava = false;
        for (String line : Files.readAllLines(Path.of("README.md"))) {
            if (line.startsWith("```")) {
                isJava = line.equals("```java");
            } else if (isJava && !line.startsWith("//") && !line.equals("AreaSetter s = new AreaSetter();")) {
                tests.run(line);
            }
        }
        for (Method m : AreaSetter.class.getDeclaredMethods()) {
            if (Modifier.isPublic(m.getModifiers())) {
                tests.hold(tests.called.contains(m.getName()), m.getName() + " is not shown in README.md");
            }
        }
        System.out.println("ReadmeTests: " + tests.lines + " lines, " + tests.wrong + " not as due");
        if (tests.wrong > 0) {
            System.exit(1);
        }
    }

    private void hold(boolean holds, String otherwise) {
        if (!holds) {
            wrong++;
            System.out.println(otherwise);
        }
    }

    private void run(String line) throws ReflectiveOperationException {
        lines++;
        Matcher m = CALL.matcher(line);
        if (!m.matches()) {
            hold(false, "not a call with its answer: " + line);
            return;
        }
        called.add(m.group(1));
        String answer = answerOf(m.group(1), m.group(2).isEmpty() ? new String[0] : m.group(2).split(", "));
        hold(answer.equals(m.group(3)), line + " answered " + answer);
    }

    private String answerOf(String name, String[] arguments) throws ReflectiveOperationException {
        for (Method m : AreaSetter.class.getMethods()) {
            if (m.getName().equals(name) && m.getParameterCount() == arguments.length) {
                Object[] values = new Object[arguments.length];
                for (int i = 0; i < values.length; i++) {
                    values[i] = m.getParameterTypes()[i] == boolean.class ? (Object) Boolean.valueOf(arguments[i])
                            : (Object) Integer.decode(arguments[i]);
                }
                try {
                    return m.invoke(setter, values).toString();
                } catch (InvocationTargetException e) {
                    return e.getCause().toString();
                }
            }
        }
        return "nothing: there is no such call";
    }
}
