import java.io.ByteArrayOutputStream;
import java.io.IOException;
import java.io.InputStream;
import java.io.OutputStream;
import java.net.URI;
import java.nio.file.Files;
import java.nio.file.Path;
import java.util.ArrayList;
import java.util.Arrays;
import java.util.HashMap;
import java.util.List;
import java.util.Map;
import java.util.concurrent.ExecutorService;
import java.util.concurrent.Executors;
import java.util.concurrent.TimeUnit;
import java.util.regex.Matcher;
import java.util.regex.Pattern;
import javax.tools.FileObject;
import javax.tools.ForwardingJavaFileManager;
import javax.tools.JavaCompiler;
import javax.tools.JavaFileManager;
import javax.tools.JavaFileObject;
import javax.tools.SimpleJavaFileObject;
import javax.tools.StandardJavaFileManager;
import javax.tools.ToolProvider;

/**
 * Breaks the class in all small ways, one at a time, and tells which sentences' tests find it: a sentence whose test
 * finds none of them may be tested too weakly, and so may what a change that nobody finds is about. It takes a minute
 * or two, and is no part of .ci/run: java -cp OUT Mutants src/main/java/AreaSetter.java
 */
public final class Mutants {
    private static final long MOST_SECONDS = 20;
    private static final Pattern COMMENT = Pattern.compile("/\\*.*?\\*/|//[^\n]*", Pattern.DOTALL);
    private static final Pattern TOKEN = Pattern.compile("\"[^\"]*\"|'[^']*'|[A-Za-z_]\\w*|\\d+L?|[<>=!+*/-]=|&&|\\|\\||\\+\\+|--"
            + "|<<|>>|->|\\S");
    private static final Map<String, String[]> INSTEAD = new HashMap<>();

    static {
        String[] all = {"< <= >=", "<= < >", "> >= <", ">= > <=", "== !=", "!= ==", "&& ||", "|| &&", "+ -", "- +", "* /",
            "/ *", "% /", "++ --", "-- ++", "+= -= =", "-= +=", "true false", "false true", "min max", "max min", "wide high",
            "high wide", "x y", "y x", "from to", "to from", "left top", "top left", "i 0", "b 0", "many 1", ">> >>>"};
        for (String one : all) {
            String[] words = one.split(" ");
            INSTEAD.put(words[0], Arrays.copyOfRange(words, 1, words.length));
        }
    }

    private record Change(int from, int to, String instead) {
    }

    /** What came of one change: the sentences that found it, or why none could. */
    private static final class Outcome {
        boolean isCompiled = false;
        boolean isEnded = true;
        boolean[] found = new boolean[0];

        boolean isFound() {
            for (boolean f : found) {
                if (f) {
                    return true;
                }
            }
            return false;
        }
    }

    public static void main(String[] args) throws IOException, InterruptedException {
        String source = Files.readString(Path.of(args.length > 0 ? args[0] : "src/main/java/AreaSetter.java"));
        String code = COMMENT.matcher(source).replaceAll(m -> m.group().replaceAll("[^\n]", " "));
        List<Change> changes = changesOf(code);
        Outcome[] outcomes = new Outcome[changes.size()];
        ExecutorService pool = Executors.newFixedThreadPool(Runtime.getRuntime().availableProcessors());
        for (int i = 0; i < outcomes.length; i++) {
            int k = i;
            Change c = changes.get(i);
            pool.execute(() -> outcomes[k] = tryOut(code.substring(0, c.from) + c.instead + code.substring(c.to)));
        }
        pool.shutdown();
        pool.awaitTermination(2, TimeUnit.HOURS);
        tell(code, changes, outcomes);
        System.exit(0);
    }

    private static List<Change> changesOf(String code) {
        List<Change> changes = new ArrayList<>();
        Matcher m = TOKEN.matcher(code);
        while (m.find()) {
            String token = m.group();
            for (String other : INSTEAD.getOrDefault(token, new String[0])) {
                changes.add(new Change(m.start(), m.end(), other));
            }
            if (token.equals("!")) {
                changes.add(new Change(m.start(), m.end(), ""));
            } else if (token.matches("\\d+")) {
                changes.add(new Change(m.start(), m.end(), "" + (Integer.parseInt(token) + 1)));
                changes.add(new Change(m.start(), m.end(), "(" + (Integer.parseInt(token) - 1) + ")"));
            } else if (token.equals("if") || token.equals("while")) {
                int end = endOfCondition(code, m.end());
                changes.add(new Change(m.end(), end, " (1 == 1)"));
                changes.add(new Change(m.end(), end, " (1 == 0)"));
            } else if (token.equals("return")) {
                int end = code.indexOf(';', m.end());
                for (String answer : new String[] {"NONE", "0", "1", "true", "false"}) {
                    changes.add(new Change(m.end(), end, " " + answer));
                }
            }
        }
        changes.removeIf(c -> code.substring(c.from, c.to).strip().equals(c.instead.strip()));
        Matcher line = Pattern.compile("(?m)^ {8,}(?!return|throw)[^\n]*;$").matcher(code);
        while (line.find()) {
            changes.add(new Change(line.start(), line.end(), ""));
        }
        return changes;
    }

    private static int endOfCondition(String code, int from) {
        int open = 0;
        for (int i = from; i < code.length(); i++) {
            if (code.charAt(i) == '(') {
                open++;
            } else if (code.charAt(i) == ')') {
                open--;
                if (open == 0) {
                    return i + 1;
                }
            }
        }
        return code.length();
    }

    private static void tell(String code, List<Change> changes, Outcome[] outcomes) {
        List<Sentences.Sentence> all = Sentences.all();
        int[] foundBy = new int[all.size()];
        int found = 0;
        int uncompiled = 0;
        int endless = 0;
        int unfound = 0;
        for (int i = 0; i < outcomes.length; i++) {
            Outcome o = outcomes[i];
            for (int k = 0; k < o.found.length; k++) {
                foundBy[k] += o.found[k] ? 1 : 0;
            }
            if (!o.isCompiled) {
                uncompiled++;
            } else if (o.isFound()) {
                found++;
            } else if (!o.isEnded) {
                endless++;
            } else {
                unfound++;
                System.out.println("not found: " + shown(code, changes.get(i)));
            }
        }
        for (int k = 0; k < foundBy.length; k++) {
            System.out.println(foundBy[k] + " found by (" + all.get(k).part() + ") " + all.get(k).words());
        }
        System.out.println(outcomes.length + " changes: " + found + " found, " + uncompiled + " not compiled, " + endless
                + " without an end, " + unfound + " not found");
    }

    private static String shown(String code, Change c) {
        int line = 1 + (int) code.substring(0, c.from).chars().filter(ch -> ch == '\n').count();
        int start = code.lastIndexOf('\n', c.from) + 1;
        int end = code.indexOf('\n', c.to);
        return line + ": " + code.substring(start, Math.max(start, c.from)).strip() + " [" + code.substring(c.from, c.to).strip()
                + " -> " + c.instead + "] " + code.substring(c.to, Math.max(c.to, end)).strip();
    }

    private static Outcome tryOut(String code) {
        Outcome o = new Outcome();
        Map<String, byte[]> classes = compiled(code);
        if (classes == null) {
            return o;
        }
        o.isCompiled = true;
        Thread t = new Thread(null, () -> run(classes, o), "mutant", 1 << 24);
        t.setDaemon(true);
        t.start();
        try {
            t.join(TimeUnit.SECONDS.toMillis(MOST_SECONDS));
        } catch (InterruptedException e) {
            Thread.currentThread().interrupt();
        }
        if (t.isAlive()) {
            o.isEnded = false;
            stop(t);
        }
        return o;
    }

    @SuppressWarnings({"deprecation", "removal"})
    private static void stop(Thread t) {
        t.stop();
    }

    /** Runs all sentences with a class loader of their own, so that they meet the changed class. */
    private static void run(Map<String, byte[]> classes, Outcome o) {
        try {
            Class<?> sentences = Class.forName("Mutants$Inside", true, new Loader(classes));
            o.found = new boolean[Sentences.all().size()];
            var run = sentences.getDeclaredMethod("run", boolean[].class);
            run.setAccessible(true);
            run.invoke(null, o.found);
        } catch (ReflectiveOperationException e) {
            o.found = new boolean[] {true};
        }
    }

    /** What is loaded together with the changed class. */
    static final class Inside {
        private Inside() {
        }

        static void run(boolean[] found) {
            List<Sentences.Sentence> all = Sentences.all();
            for (int k = 0; k < found.length; k++) {
                found[k] = all.get(k).run(true) > 0;
            }
        }
    }

    private static final class Loader extends ClassLoader {
        private final Map<String, byte[]> changed;

        Loader(Map<String, byte[]> changed) {
            super(Mutants.class.getClassLoader());
            this.changed = changed;
        }

        @Override
        protected Class<?> loadClass(String name, boolean resolve) throws ClassNotFoundException {
            if (name.contains(".") || findLoadedClass(name) != null) {
                return super.loadClass(name, resolve);
            }
            byte[] bytes = changed.get(name);
            if (bytes == null) {
                try (InputStream in = getParent().getResourceAsStream(name + ".class")) {
                    if (in == null) {
                        return super.loadClass(name, resolve);
                    }
                    bytes = in.readAllBytes();
                } catch (IOException e) {
                    throw new ClassNotFoundException(name, e);
                }
            }
            return defineClass(name, bytes, 0, bytes.length);
        }
    }

    private static Map<String, byte[]> compiled(String code) {
        JavaCompiler compiler = ToolProvider.getSystemJavaCompiler();
        Map<String, ByteArrayOutputStream> out = new HashMap<>();
        JavaFileObject in = new SimpleJavaFileObject(URI.create("string:///AreaSetter.java"), JavaFileObject.Kind.SOURCE) {
            @Override
            public CharSequence getCharContent(boolean ignoreEncodingErrors) {
                return code;
            }
        };
        StandardJavaFileManager standard = compiler.getStandardFileManager(d -> { }, null, null);
        try (JavaFileManager files = new Kept(standard, out)) {
            if (!compiler.getTask(null, files, d -> { }, List.of("-proc:none"), null, List.of(in)).call()) {
                return null;
            }
        } catch (IOException e) {
            return null;
        }
        Map<String, byte[]> classes = new HashMap<>();
        out.forEach((name, bytes) -> classes.put(name, bytes.toByteArray()));
        return classes;
    }

    /** Keeps what is compiled out of the file system. */
    private static final class Kept extends ForwardingJavaFileManager<StandardJavaFileManager> {
        private final Map<String, ByteArrayOutputStream> out;

        Kept(StandardJavaFileManager standard, Map<String, ByteArrayOutputStream> out) {
            super(standard);
            this.out = out;
        }

        @Override
        public JavaFileObject getJavaFileForOutput(Location location, String name, JavaFileObject.Kind kind, FileObject sibling) {
            return new SimpleJavaFileObject(URI.create("mem:///" + name + ".class"), kind) {
                @Override
                public OutputStream openOutputStream() {
                    ByteArrayOutputStream bytes = new ByteArrayOutputStream();
                    out.put(name, bytes);
                    return bytes;
                }
            };
        }
    }
}
