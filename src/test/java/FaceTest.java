import java.lang.reflect.Array;
import java.lang.reflect.Field;
import java.lang.reflect.Member;
import java.lang.reflect.Method;
import java.lang.reflect.Modifier;
import java.nio.file.Files;
import java.nio.file.Path;
import java.util.Arrays;
import java.util.Collections;
import java.util.IdentityHashMap;
import java.util.Set;
import java.util.TreeSet;
import java.util.regex.Matcher;
import java.util.regex.Pattern;

/** The document's face and what of LANGUAGE.md can be seen in the class and its text. Run in the project's folder. */
public final class FaceTest {
    private static final String FACE = "int feed(int,int,int,int,int) int end(int) int text() int fault(int) int about(int)"
        + " int holder(int,int) long has(int,int,int) int state(int,int) int paid(int,int) long level(int,int)"
        + " int least(int,int) int flat(int,int,int) int unpaid(int) int wants(int,int,int) int dilutes(int,int,int,int)"
        + " int prefers(int,int) int votes(int) int passes(int,int) long breaks(int,int) long part(int,int,int)"
        + " long chosen(int,int,int,int) int steady(int,int) int steadies(int,int) int close(int,int)"
        + " int release(int,boolean) int sale(int) int guess(int,int) long mean(int) int multiple(int,int)"
        + " int yields(int,int,int) int grant(int,int) boolean waive(int,boolean) int rank(int,int) boolean undo()";

    public static void main(String[] args) throws Exception {
        face();
        classesInside();
        text(Files.readString(Path.of("src/main/java/ExitFalls.java")));
        room();
        Check.finish();
    }

    private static void face() {
        Set<String> want = new TreeSet<>();
        Matcher one = Pattern.compile("\\w+ \\w+\\([^)]*\\)").matcher(FACE);
        while (one.find()) {
            want.add(one.group());
        }
        Set<String> got = new TreeSet<>();
        Set<String> names = new TreeSet<>();
        for (Method m : ExitFalls.class.getDeclaredMethods()) {
            if (!Modifier.isPrivate(m.getModifiers())) {
                String kinds = String.join(",", Arrays.stream(m.getParameterTypes()).map(Class::getName).toList());
                got.add(m.getReturnType().getName() + " " + m.getName() + "(" + kinds + ")");
                names.add(m.getName());
                Check.due("public, not static: " + m.getName(), m.getModifiers(), Modifier.PUBLIC);
            }
        }
        Check.due("methods of the face " + got, got.equals(want), true);
        for (Class<?> c : all()) {
            for (Method m : c.getDeclaredMethods()) {
                Check.due("parameters of " + m, m.getParameterCount() <= 7, true);
                if (c != ExitFalls.class || Modifier.isPrivate(m.getModifiers())) {
                    Check.due("a name of the face inside: " + m, names.contains(m.getName()), false);
                }
            }
        }
        Check.due("class", ExitFalls.class.getModifiers(), Modifier.PUBLIC | Modifier.FINAL);
        Check.due("constructors", ExitFalls.class.getDeclaredConstructors().length, 1);
        for (Field f : ExitFalls.class.getDeclaredFields()) {
            boolean isNone = f.getName().equals("NONE") && Modifier.isPublic(f.getModifiers());
            Check.due("field " + f, isNone || Modifier.isPrivate(f.getModifiers()), true);
        }
    }

    private static Class<?>[] all() {
        Class<?>[] inside = ExitFalls.class.getDeclaredClasses();
        Class<?>[] all = Arrays.copyOf(inside, inside.length + 1);
        all[inside.length] = ExitFalls.class;
        return all;
    }

    private static void classesInside() {
        Check.due("classes", all().length <= 12, true);
        for (Class<?> c : all()) {
            Check.due("static or the face: " + c, c == ExitFalls.class || Modifier.isStatic(c.getModifiers()), true);
            int fields = 0;
            for (Field f : c.getDeclaredFields()) {
                fields += Modifier.isStatic(f.getModifiers()) ? 0 : 1;
                Check.due("static fields are final: " + f, isStaticNotFinal(f), false);
            }
            Check.due("fields of " + c, fields <= 20, true);
        }
    }

    private static boolean isStaticNotFinal(Member f) {
        return Modifier.isStatic(f.getModifiers()) && !Modifier.isFinal(f.getModifiers());
    }

    private static void text(String text) {
        String code = text.replaceAll("(?s)/\\*.*?\\*/", "").replaceAll("//[^\n]*", "");
        String[] never = { "\\bimport\\b", "\\bpackage\\b", "\\btry\\b", "\\bcatch\\b", "\\bfinally\\b", "\\bthrow\\b",
            "->", "::", "\\bassert\\b", "\\bsynchronized\\b", "\\binstanceof\\b", "\\bvar\\b", "\\bstatic\\s*\\{",
            "\\bprotected\\b", "\\bequals\\b", "\\bhashCode\\b", "\\btoString\\b", "Exact\\b", "\\bDouble\\b",
            "\\bFloat\\b", "\\bObject\\b", "@" };
        for (String what : never) {
            Check.due("the text has " + what, Pattern.compile(what).matcher(code).find(), false);
        }
        Matcher library = Pattern.compile("\\b(System|Math|Integer|Long|Arrays)\\.(\\w+)").matcher(code);
        Set<String> known = Set.of("System.arraycopy", "Math.max", "Math.min", "Long.compare");
        while (library.find()) {
            Check.due("library: " + library.group(), known.contains(library.group()), true);
        }
        for (char c : text.toCharArray()) {
            Check.due("sign " + (int) c, c == 10 || c >= 32 && c < 127, true);
        }
        madeOnce(code);
        longMethods(text);
    }

    /** Objects are made with the object alone, so that no run of calls needs more room; and few, since runs make many. */
    private static void madeOnce(String code) {
        Matcher made = Pattern.compile("(?m)^(.*)\\bnew\\b.*$").matcher(code);
        while (made.find()) {
            boolean isField = made.group(1).matches(" {8}(private )?final [\\w\\[\\]]+ \\w+ = ");
            boolean isInConstructor = made.group(1).matches(" {8}\\w+ = ");
            Check.due("made once: " + made.group().trim(), isField || isInConstructor, true);
        }
    }

    private static void room() throws Exception {
        Set<Object> seen = Collections.newSetFromMap(new IdentityHashMap<>());
        Check.due("fields and elements of an object", places(new ExitFalls(), seen) <= 2400, true);
        Check.due("objects and arrays of an object", seen.size() <= 60, true);
    }

    private static int places(Object of, Set<Object> seen) throws Exception {
        if (of == null || !seen.add(of)) {
            return 0;
        }
        if (of.getClass().isArray()) {
            return Array.getLength(of);
        }
        int sum = 0;
        for (Field f : of.getClass().getDeclaredFields()) {
            if (!Modifier.isStatic(f.getModifiers())) {
                f.setAccessible(true);
                sum += 1 + (f.getType().isPrimitive() ? 0 : places(f.get(of), seen));
            }
        }
        return sum;
    }

    private static void longMethods(String text) {
        Matcher method = Pattern.compile("(?m)^( {4}| {8})\\S[^;{}=]*\\) \\{\n(?s:.*?)\n\\1\\}$").matcher(text);
        int count = 0;
        while (method.find()) {
            count++;
            String[] lines = method.group().split("\n");
            Check.due("lines of " + lines[0], lines.length <= 60, true);
        }
        Check.due("methods are seen", count > 100, true);
    }
}
