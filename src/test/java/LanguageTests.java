import java.io.IOException;
import java.lang.reflect.Constructor;
import java.lang.reflect.Field;
import java.lang.reflect.Method;
import java.lang.reflect.Modifier;
import java.nio.file.Files;
import java.nio.file.Path;
import java.util.Arrays;
import java.util.Set;
import java.util.TreeSet;
import java.util.regex.Matcher;
import java.util.regex.Pattern;

/** The face, and those rules of LANGUAGE.md that can be seen in the source by its words. */
public final class LanguageTests {
    private static final Set<String> FACE = new TreeSet<>(Arrays.asList("boolean sheet(int, int)",
            "boolean price(int)", "int feed(int, int, int, int, int)", "int end(int)", "int tree()", "int place()",
            "int size(int, int, int)", "boolean rest(int, int, boolean)", "int draw(int)", "int box(int, int)",
            "int restOf(int, int)", "int under(int, int)", "int letters(int)", "int moved(int)",
            "int past(int, int, int) throws java.util.NoSuchElementException", "int about(int, int)",
            "int letter(int, int)", "int named()", "int sizeIn(int, int)", "int count(int)"));
    private static final String[] NEVER = {"->", "::", "\\bcatch\\b", "\\btry\\b", "\\bfinally\\b", "\\bassert\\b",
        "\\bsynchronized\\b", "Exact\\s*\\(", "\\bString\\s*\\.", "\\bSystem\\s*\\.(?!arraycopy)", "\\bObject\\b",
        "\\bpackage\\b", "\\bprotected\\b", "\\bstatic\\s*\\{", "\\bwhile\\s*\\(\\s*true", "\\bfor\\s*\\(\\s*;",
        "\\btoString\\b", "\\bhashCode\\b", "\\bdouble\\b", "\\bfloat\\b"};

    private static int wrong = 0;

    public static void main(String[] args) throws IOException {
        Path source = Path.of(args.length > 0 ? args[0] : "src/main/java/AreaSetter.java");
        face();
        String code = withoutComments(Files.readString(source));
        for (String never : NEVER) {
            Matcher m = Pattern.compile(never).matcher(code);
            hold("the source has " + never, !m.find());
        }
        Matcher imports = Pattern.compile("import ([^;]*);").matcher(code);
        while (imports.find()) {
            hold("import " + imports.group(1), imports.group(1).equals("java.util.NoSuchElementException"));
        }
        Matcher thrown = Pattern.compile("throw new (\\w+)").matcher(code);
        while (thrown.find()) {
            hold("throw " + thrown.group(1), thrown.group(1).equals("NoSuchElementException"));
        }
        methods(code);
        hold("only signs 1 to 127", code.chars().allMatch(c -> c > 0 && c < 128));
        System.out.println("LanguageTests: " + wrong + " not as due");
        if (wrong > 0) {
            System.exit(1);
        }
    }

    private static void hold(String what, boolean holds) {
        if (!holds) {
            wrong++;
            System.out.println("not as due: " + what);
        }
    }

    private static void face() {
        Class<AreaSetter> c = AreaSetter.class;
        hold("public final", Modifier.isPublic(c.getModifiers()) && Modifier.isFinal(c.getModifiers()));
        Set<String> seen = new TreeSet<>();
        for (Method m : c.getDeclaredMethods()) {
            if (!Modifier.isPrivate(m.getModifiers())) {
                String text = m.toGenericString().replace("AreaSetter.", "").replace("public ", "").replace(",", ", ");
                seen.add(text);
            }
        }
        hold("the methods are " + seen, seen.equals(FACE));
        Constructor<?>[] made = c.getDeclaredConstructors();
        hold("one constructor", made.length == 1 && Modifier.isPublic(made[0].getModifiers())
                && made[0].getParameterCount() == 0);
        for (Field f : c.getDeclaredFields()) {
            hold("field " + f.getName(), Modifier.isPrivate(f.getModifiers()) || f.getName().equals("NONE"));
            hold("static " + f.getName(), !Modifier.isStatic(f.getModifiers()) || Modifier.isFinal(f.getModifiers()));
        }
        Set<String> names = new TreeSet<>();
        FACE.forEach(m -> names.add(m.replaceAll("\\(.*", "").replaceAll(".* ", "")));
        Class<?>[] inside = c.getDeclaredClasses();
        hold("some twelve classes", inside.length < 12);
        for (Class<?> i : inside) {
            inside(i, names);
        }
    }

    private static void inside(Class<?> i, Set<String> names) {
        hold(i + " is static", Modifier.isStatic(i.getModifiers()) && !Modifier.isPublic(i.getModifiers()));
        int fields = 0;
        for (Field f : i.getDeclaredFields()) {
            boolean isStatic = Modifier.isStatic(f.getModifiers());
            hold("static " + f.getName(), !isStatic || Modifier.isFinal(f.getModifiers()));
            fields += isStatic ? 0 : 1;
        }
        hold("some twenty fields in " + i, fields <= 20);
        for (Method m : i.getDeclaredMethods()) {
            hold("a name of the face for " + m, !names.contains(m.getName()));
            hold("seven parameters of " + m, m.getParameterCount() <= 7);
        }
    }

    private static void methods(String code) {
        String[] lines = code.split("\n", -1);
        for (int i = 0; i < lines.length; i++) {
            if (!lines[i].matches("( {4}| {8})\\S.*\\{") || lines[i].contains(" class ")) {
                continue;
            }
            String closing = lines[i].replaceAll("\\S.*", "") + "}";
            int end = i;
            while (end < lines.length && !lines[end].equals(closing)) {
                end++;
            }
            hold("sixty lines from line " + (i + 1), end - i <= 60);
        }
    }

    /** Comments are blanked, their lines stay. */
    private static String withoutComments(String code) {
        return Pattern.compile("/\\*.*?\\*/|//[^\n]*", Pattern.DOTALL).matcher(code)
                .replaceAll(m -> m.group().replaceAll("[^\n]", " "));
    }
}
