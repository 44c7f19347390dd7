import java.io.IOException;
import java.lang.reflect.Field;
import java.lang.reflect.Member;
import java.lang.reflect.Method;
import java.lang.reflect.Modifier;
import java.nio.file.Files;
import java.nio.file.Path;
import java.util.ArrayList;
import java.util.Arrays;
import java.util.List;
import java.util.Map;
import java.util.Set;
import java.util.TreeMap;
import java.util.TreeSet;
import java.util.regex.Matcher;
import java.util.regex.Pattern;

/** The face of the document and what can be seen of the rules of LANGUAGE.md. Run from the project's folder. */
public final class LanguageTest {
    private static final String FACE = "odds(int,int)int heir(int)int cash(int,int)int funds(int)int say(int)int "
            + "wipe()int fault()int judge(int)int done()int behind(int)int policy(int,int)int price(int,int,int)int "
            + "chance(int,int,int)long gains(int,int)int worth(int)int best(int,int,int,int,int)long "
            + "buys(int,int,int,int)int voids(int,int)int ruin(int,int,int)long tells(int,int,int)int parts()int "
            + "seen(int,int,int)int forget()int liars(int)int ask(int)int pass(int)int bets(int,int,int,int)long "
            + "year(int,int,int)int image(int)int restore(int)int told(int)int";
    private static final Check check = new Check();

    public static void main(String[] args) throws IOException {
        constants();
        face();
        insides();
        source();
        check.end();
    }

    private static void constants() {
        check.due("NONE", AdmiralGuinea.NONE, -6);
        check.due("UNKNOWN", AdmiralGuinea.UNKNOWN, -1);
        check.due("OUTSIDE", AdmiralGuinea.OUTSIDE, -2);
        check.due("STATE", AdmiralGuinea.STATE, -3);
        check.due("FULL", AdmiralGuinea.FULL, -4);
        check.due("NO", AdmiralGuinea.NO, -5);
        check.due("LOST", AdmiralGuinea.LOST, -1000000000000000000L);
    }

    private static void face() {
        Class<?> c = AdmiralGuinea.class;
        check.isTrue("public and final", Modifier.isPublic(c.getModifiers()) && Modifier.isFinal(c.getModifiers()));
        Set<String> want = new TreeSet<>(Arrays.asList(FACE.split(" ")));
        Set<String> got = new TreeSet<>();
        for (Method m : c.getDeclaredMethods()) {
            if (m.isSynthetic()) continue;
            if (Modifier.isPrivate(m.getModifiers())) continue;
            check.isTrue(m + " is public", Modifier.isPublic(m.getModifiers()));
            StringBuilder s = new StringBuilder(m.getName()).append('(');
            for (Class<?> p : m.getParameterTypes()) s.append(s.toString().endsWith("(") ? "" : ",").append(p.getName());
            got.add(s.append(')').append(m.getReturnType().getName()).toString());
        }
        check.isTrue("the face: " + got, got.equals(want));
        Set<String> fields = new TreeSet<>();
        for (Field f : c.getDeclaredFields()) if (!Modifier.isPrivate(f.getModifiers())) fields.add(f.getName());
        check.isTrue("constants: " + fields,
                fields.equals(new TreeSet<>(List.of("NONE", "UNKNOWN", "OUTSIDE", "STATE", "FULL", "NO", "LOST"))));
        check.due("constructors", c.getDeclaredConstructors().length, 1);
    }

    private static void insides() {
        Set<String> names = new TreeSet<>();
        for (String call : FACE.split(" ")) names.add(call.substring(0, call.indexOf('(')));
        List<Class<?>> all = new ArrayList<>(List.of(AdmiralGuinea.class.getDeclaredClasses()));
        check.isTrue("twelve classes at most", all.size() < 12);
        for (Class<?> c : all) {
            check.isTrue(c + " is static, not public", Modifier.isStatic(c.getModifiers())
                    && !Modifier.isPublic(c.getModifiers()) && !Modifier.isProtected(c.getModifiers()));
            for (Method m : c.getDeclaredMethods()) check.isTrue(m + " has a name of its own", !names.contains(m.getName()));
        }
        all.add(AdmiralGuinea.class);
        for (Class<?> c : all) {
            int own = 0;
            for (Field f : c.getDeclaredFields()) {
                if (!isStatic(f)) own++;
                check.isTrue(f + " is final if static", !isStatic(f) || Modifier.isFinal(f.getModifiers()));
            }
            check.isTrue(c + " has twenty fields at most", own <= 20);
            for (Method m : c.getDeclaredMethods()) {
                check.isTrue(m + " takes seven at most", m.getParameterCount() <= 7);
                check.isTrue(m + " has a name of its own",
                        !Modifier.isPrivate(m.getModifiers()) || !names.contains(m.getName()));
            }
        }
    }

    private static boolean isStatic(Member m) {
        return Modifier.isStatic(m.getModifiers());
    }

    private static void source() throws IOException {
        String text = Files.readString(Path.of("src/main/java/AdmiralGuinea.java"));
        for (char sign : text.toCharArray()) if (sign > 126) check.isTrue("a sign above 126", false);
        String code = text.replaceAll("(?s)/\\*.*?\\*/", "").replaceAll("//[^\n]*", "");
        String[] never = {"\\bimport\\b", "\\bpackage\\b", "\\bthrow", "\\btry\\b", "\\bcatch\\b", "\\bfinally\\b",
            "\\bassert\\b", "\\bsynchronized\\b", "->", "::", "\\bwhile\\b", "static\\s*\\{", "Exact\\b", "\\bdouble\\b",
            "\\bfloat\\b", "\\bString\\b", "\\bArrays\\b", "\\bprotected\\b", "hashCode", "\\bObject\\b"};
        for (String no : never) check.isTrue("no " + no, !Pattern.compile(no).matcher(code).find());
        loopsHaveBounds(code);
        methods(code);
        depth(code);
    }

    private static void loopsHaveBounds(String code) {
        Matcher m = Pattern.compile("\\bfor\\b([^{]*)\\{").matcher(code);
        while (m.find()) {
            check.isTrue("a counter against a bound:" + m.group(1),
                    m.group(1).matches("(?s) \\(int \\w+ = [^;]+; \\w+ (<|<=|>) [^;]+; \\w+(\\+\\+|--)\\) "));
        }
    }

    /** Methods stay short; objects are made by constructors, and by image() the two images. */
    private static void methods(String code) {
        String[] lines = code.split("\n");
        Pattern head = Pattern.compile(" {4}(?: {4})?[\\w \\[\\]]*\\b(\\w+)\\([\\w \\[\\],]*\\) \\{");
        String name = "";
        int start = 0;
        for (int i = 0; i < lines.length; i++) {
            Matcher m = head.matcher(lines[i]);
            if (m.matches() && !lines[i].trim().startsWith("if") && !lines[i].trim().startsWith("for")) {
                name = m.group(1);
                start = i;
            }
            check.isTrue(name + " is short", i - start <= 60 || !lines[i].startsWith("        "));
            boolean makes = lines[i].matches(".*\\bnew\\b.*");
            check.isTrue(name + " makes nothing", !makes || Character.isUpperCase(name.charAt(0)) || name.equals("image"));
            check.isTrue("line " + (i + 1) + " is not too long", lines[i].length() <= 120);
        }
    }

    /** Rule 11 allows eight calls that stand open at once; one is kept in hand. No method calls itself. */
    private static void depth(String code) {
        Map<String, Set<String>> calls = callsOf(code);
        for (String name : calls.keySet()) {
            check.isTrue(name + " goes seven deep at most", deepest(calls, name, 1) <= 7);
        }
    }

    /** Which names each method calls; methods of one name count as one. */
    private static Map<String, Set<String>> callsOf(String code) {
        Pattern head = Pattern.compile(" {4}(?: {4})?[\\w \\[\\]]*\\b(\\w+)\\([\\w \\[\\],]*\\) \\{");
        Map<String, Set<String>> calls = new TreeMap<>();
        Set<String> now = new TreeSet<>();
        for (String line : code.split("\n")) {
            Matcher m = head.matcher(line);
            if (m.matches() && !line.trim().startsWith("if") && !line.trim().startsWith("for")) {
                now = calls.computeIfAbsent(m.group(1), name -> new TreeSet<>());
                continue;
            }
            Matcher call = Pattern.compile("\\b(\\w+)\\(").matcher(line);
            while (call.find()) now.add(call.group(1));
        }
        return calls;
    }

    /** Beyond 20 some method must call itself. */
    private static int deepest(Map<String, Set<String>> calls, String name, int open) {
        int most = open;
        if (open > 20) return most;
        for (String next : calls.get(name)) {
            if (calls.containsKey(next)) most = Math.max(most, deepest(calls, next, open + 1));
        }
        return most;
    }
}
