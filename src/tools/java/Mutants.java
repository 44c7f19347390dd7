import java.io.ByteArrayOutputStream;
import java.io.IOException;
import java.io.OutputStream;
import java.io.PrintStream;
import java.lang.reflect.Method;
import java.net.URI;
import java.nio.file.Files;
import java.nio.file.Path;
import java.util.ArrayList;
import java.util.HashMap;
import java.util.List;
import java.util.Map;
import java.util.concurrent.ExecutorService;
import java.util.concurrent.Executors;
import java.util.concurrent.TimeUnit;
import java.util.regex.Matcher;
import java.util.regex.Pattern;
import javax.tools.FileObject;
import javax.tools.ForwardingJavaFileManager;
import javax.tools.JavaCompiler;
import javax.tools.JavaFileManager;
import javax.tools.JavaFileObject;
import javax.tools.SimpleJavaFileObject;
import javax.tools.ToolProvider;

/**
 * Breaks the class in one place at a time (a sign of comparison, a number, a statement left out) and tells
 * which breaks no boundary test notices. Those that are told change no answer, or show a test that is wanting.
 * Arguments: the folder of the compiled tests, then the names of the test classes.
 */
public final class Mutants {
    private static final Path SOURCE = Path.of("src/main/java/AdmiralGuinea.java");
    private static final String[][] SWAPS = {
        {" <= ", " < "}, {" < ", " <= "}, {" >= ", " > "}, {" > ", " >= "}, {" == ", " != "}, {" != ", " == "},
        {" && ", " || "}, {" || ", " && "}, {" + ", " - "}, {" - ", " + "}, {"++", "--"}, {"--", "++"},
        {" += ", " -= "}, {" -= ", " += "}, {" * ", " + "}, {" / ", " * "}, {" % ", " + "}, {" |= ", " &= "},
        {" &= ", " |= "}, {"Math.min", "Math.max"}, {"Math.max", "Math.min"}, {"return UNKNOWN", "return OUTSIDE"},
        {"return OUTSIDE", "return UNKNOWN"}, {"return STATE", "return NO"}, {"return NO;", "return STATE;"},
        {": FULL", ": NO"}, {"return NONE", "return NO"}, {"LOST + ", "LOST - "}, {"true", "false"},
        {"false", "true"}, {"!is", "is"}, {"!book", "book"}, {"!stands", "stands"}, {" & ", " | "}, {" << ", " >> "}};

    private Mutants() {
    }

    public static void main(String[] args) throws Exception {
        List<String[]> all = mutantsOf(Files.readString(SOURCE));
        Path tests = Path.of(args[0]);
        List<String> names = List.of(args).subList(1, args.length);
        PrintStream out = System.out;
        System.setOut(new PrintStream(OutputStream.nullOutputStream()));
        ExecutorService pool = Executors.newFixedThreadPool(Runtime.getRuntime().availableProcessors());
        int[] counts = new int[3];
        for (String[] mutant : all) {
            pool.submit(() -> {
                String fate = fateOf(mutant[1], tests, names);
                synchronized (counts) {
                    counts[fate.equals("lives") ? 0 : fate.equals("is no Java") ? 1 : 2]++;
                    if (fate.equals("lives")) out.println(mutant[0]);
                }
            });
        }
        pool.shutdown();
        pool.awaitTermination(1, TimeUnit.HOURS);
        out.println(counts[0] + " not noticed, " + counts[2] + " noticed, " + counts[1] + " are no Java");
        System.exit(0);
    }

    /** Each: what was broken, the whole source. */
    private static List<String[]> mutantsOf(String source) {
        List<String[]> all = new ArrayList<>();
        int at = 0;
        int number = 0;
        boolean comment = false;
        for (String line : source.split("\n")) {
            number++;
            String trimmed = line.trim();
            comment = comment || trimmed.startsWith("/**");
            if (!comment && !trimmed.startsWith("//")) {
                for (String broken : brokenLines(line)) {
                    String text = source.substring(0, at) + broken + source.substring(at + line.length());
                    all.add(new String[] {number + ": " + trimmed + "  =>  " + broken.trim(), text});
                }
            }
            comment = comment && !trimmed.endsWith("*/");
            at += line.length() + 1;
        }
        return all;
    }

    private static List<String> brokenLines(String line) {
        List<String> broken = new ArrayList<>();
        for (String[] swap : SWAPS) {
            for (int i = line.indexOf(swap[0]); i >= 0; i = line.indexOf(swap[0], i + 1)) {
                broken.add(line.substring(0, i) + swap[1] + line.substring(i + swap[0].length()));
            }
        }
        Matcher m = Pattern.compile("\\b\\d+\\b").matcher(line);
        while (m.find()) {
            for (int more = -1; more <= 1; more += 2) {
                if (m.group().length() < 9) {
                    broken.add(line.substring(0, m.start()) + (Integer.parseInt(m.group()) + more) + line.substring(m.end()));
                }
            }
        }
        if (line.matches("\\s+[\\w.\\[\\]]+( [-+|&]?= .*|\\(.*\\)|\\+\\+|--);")) broken.add("");
        return broken;
    }

    private static String fateOf(String text, Path tests, List<String> names) {
        Map<String, byte[]> classes = compile(text);
        if (classes == null) return "is no Java";
        String[] fate = {"does not end"};
        Thread thread = new Thread(() -> fate[0] = anyFails(new Loader(classes, tests), names) ? "is noticed" : "lives");
        thread.setDaemon(true);
        thread.start();
        try {
            thread.join(20000);
        } catch (InterruptedException e) {
            return "was cut off";
        }
        return fate[0];
    }

    private static boolean anyFails(Loader loader, List<String> names) {
        try {
            Class<?> check = loader.loadClass("Check");
            Method runOne = loader.loadClass("Named").getDeclaredMethod("runOne", Method.class, check);
            Method wrong = check.getDeclaredMethod("wrongOnes");
            runOne.setAccessible(true);
            wrong.setAccessible(true);
            var make = check.getDeclaredConstructor(String.class);
            make.setAccessible(true);
            for (String name : names) {
                for (Method test : loader.loadClass(name).getDeclaredMethods()) {
                    if (!test.getName().startsWith("promise")) continue;
                    Object one = make.newInstance("");
                    runOne.invoke(null, test, one);
                    if ((Integer) wrong.invoke(one) != 0) return true;
                }
            }
            return false;
        } catch (ReflectiveOperationException e) {
            throw new IllegalStateException(e);
        }
    }

    private static Map<String, byte[]> compile(String text) {
        JavaCompiler javac = ToolProvider.getSystemJavaCompiler();
        Map<String, ByteArrayOutputStream> made = new HashMap<>();
        JavaFileManager files = new ForwardingJavaFileManager<JavaFileManager>(
                javac.getStandardFileManager(d -> { }, null, null)) {
            @Override
            public JavaFileObject getJavaFileForOutput(Location l, String name, JavaFileObject.Kind kind, FileObject f) {
                return new SimpleJavaFileObject(URI.create("mem:///" + name.replace('$', '_') + ".class"), kind) {
                    @Override
                    public OutputStream openOutputStream() {
                        ByteArrayOutputStream bytes = new ByteArrayOutputStream();
                        made.put(name, bytes);
                        return bytes;
                    }
                };
            }
        };
        JavaFileObject source = new SimpleJavaFileObject(URI.create("mem:///AdmiralGuinea.java"),
                JavaFileObject.Kind.SOURCE) {
            @Override
            public CharSequence getCharContent(boolean ignore) {
                return text;
            }
        };
        if (!javac.getTask(null, files, d -> { }, List.of(), null, List.of(source)).call()) return null;
        Map<String, byte[]> classes = new HashMap<>();
        made.forEach((name, bytes) -> classes.put(name, bytes.toByteArray()));
        return classes;
    }

    /** Loads the broken class and, anew, the tests that use it. */
    private static final class Loader extends ClassLoader {
        private final Map<String, byte[]> classes;
        private final Path tests;

        Loader(Map<String, byte[]> classes, Path tests) {
            super(ClassLoader.getPlatformClassLoader());
            this.classes = classes;
            this.tests = tests;
        }

        @Override
        protected Class<?> findClass(String name) throws ClassNotFoundException {
            try {
                byte[] bytes = classes.containsKey(name) ? classes.get(name)
                        : Files.readAllBytes(tests.resolve(name + ".class"));
                return defineClass(name, bytes, 0, bytes.length);
            } catch (IOException e) {
                throw new ClassNotFoundException(name);
            }
        }
    }
}
