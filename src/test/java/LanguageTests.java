import java.io.IOException;
import java.lang.reflect.Constructor;
import java.lang.reflect.Field;
import java.lang.reflect.Method;
import java.lang.reflect.Modifier;
import java.nio.file.Path;
import java.util.Arrays;
import java.util.Set;
import java.util.TreeSet;

/** The face as it is compiled, and the rules of LANGUAGE.md by way of Rules. */
public final class LanguageTests {
    private static final Set<String> FACE = new TreeSet<>(Arrays.asList("boolean sheet(int, int)",
            "boolean price(int)", "int feed(int, int, int, int, int)", "int end(int)", "int tree()", "int place()",
            "int size(int, int, int)", "boolean rest(int, int, boolean)", "int draw(int)", "int box(int, int)",
            "int restOf(int, int)", "int under(int, int)", "int letters(int)", "int moved(int)",
            "int past(int, int, int) throws java.util.NoSuchElementException", "int about(int, int)",
            "int letter(int, int)", "int named()", "int sizeIn(int, int)", "int count(int)"));
    private static int wrong = 0;

    public static void main(String[] args) throws IOException {
        Path source = Path.of(args.length > 0 ? args[0] : "src/main/java/AreaSetter.java");
        face();
        for (String broken : Rules.brokenBy(source)) {
            hold(broken, false);
        }
        System.out.println("LanguageTests: " + wrong + " not as due");
        if (wrong > 0) {
            System.exit(1);
        }
    }

    private static void hold(String what, boolean holds) {
        if (!holds) {
            wrong++;
            System.out.println("not as due: " + what);
        }
    }

    private static void face() {
        Class<AreaSetter> c = AreaSetter.class;
        hold("public final", Modifier.isPublic(c.getModifiers()) && Modifier.isFinal(c.getModifiers()));
        Set<String> seen = new TreeSet<>();
        for (Method m : c.getDeclaredMethods()) {
            if (!Modifier.isPrivate(m.getModifiers())) {
                String text = m.toGenericString().replace("AreaSetter.", "").replace("public ", "").replace(",", ", ");
                seen.add(text);
            }
        }
        hold("the methods are " + seen, seen.equals(FACE));
        Constructor<?>[] made = c.getDeclaredConstructors();
        hold("one constructor", made.length == 1 && Modifier.isPublic(made[0].getModifiers())
                && made[0].getParameterCount() == 0);
        for (Field f : c.getDeclaredFields()) {
            hold("field " + f.getName(), Modifier.isPrivate(f.getModifiers()) || f.getName().equals("NONE"));
            hold("static " + f.getName(), !Modifier.isStatic(f.getModifiers()) || Modifier.isFinal(f.getModifiers()));
        }
        Set<String> names = new TreeSet<>();
        FACE.forEach(m -> names.add(m.replaceAll("\\(.*", "").replaceAll(".* ", "")));
        for (Class<?> inside : c.getDeclaredClasses()) {
            for (Method m : inside.getDeclaredMethods()) {
                hold("a name of the face for " + m, !names.contains(m.getName()));
            }
        }
    }
}
