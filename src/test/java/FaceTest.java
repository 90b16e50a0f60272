import java.lang.reflect.Constructor;
import java.lang.reflect.Field;
import java.lang.reflect.InvocationTargetException;
import java.lang.reflect.Member;
import java.lang.reflect.Method;
import java.lang.reflect.Modifier;
import java.nio.file.Files;
import java.nio.file.Path;
import java.util.ArrayList;
import java.util.Arrays;
import java.util.List;
import java.util.Random;
import java.util.TreeSet;
import java.util.regex.Matcher;
import java.util.regex.Pattern;

/** The public face, what can be seen of ../shared/LANGUAGE.md without a reader, and calls with far-off arguments. */
public final class FaceTest {
    private static final Check CHECK = new Check("FaceTest");
    private static final String[] FACE = {
        "int set(int,int,int)", "int make(int,int,int)", "int told(int,int)", "int fit(int,int)", "int feed(int)", "int text()",
        "int force(int)", "int canBe(int,int)", "int fetch(int,int)", "int goes(int)", "int worst(int)", "int pair(int)",
        "int served(int)", "int order(int,int,int)", "int missing(int)", "int lies(int)", "int runs(int,int,int,int)",
        "int film(int,int,int)", "int drawn(int)", "long chance(int,int,int)", "int image()", "int back()", "int count(int)",
        "int sheet(int,int,int)", "int cell(int,int,int)", "int copy(int,int,int,int,int)", "int town(int,int,int,int)",
        "int taken(int,int)",
    };

    public static void main(String[] args) throws Exception {
        face();
        constants();
        classesInside();
        source();
        farOff();
        CHECK.end();
    }

    private static void yes(String what, boolean is) {
        CHECK.due(what, 1, is ? 1 : 0);
    }

    private static boolean isPrivate(Member m) {
        return Modifier.isPrivate(m.getModifiers());
    }

    private static void face() {
        int modifiers = HalfASize.class.getModifiers();
        yes("public and final", Modifier.isPublic(modifiers) && Modifier.isFinal(modifiers));
        TreeSet<String> due = new TreeSet<>(List.of(FACE));
        TreeSet<String> got = new TreeSet<>();
        TreeSet<String> names = new TreeSet<>();
        for (Method m : HalfASize.class.getDeclaredMethods()) {
            if (!isPrivate(m)) {
                String parameters = Arrays.toString(m.getParameterTypes()).replaceAll("[\\[\\] ]", "");
                got.add(m.getReturnType() + " " + m.getName() + "(" + parameters + ")");
                names.add(m.getName());
                yes(m + " is public and of an object", Modifier.isPublic(m.getModifiers()) && !Modifier.isStatic(m.getModifiers()));
            }
        }
        yes("the face is " + due + ", not " + got, due.equals(got));
        for (Class<?> c : classes()) {
            for (Method m : c.getDeclaredMethods()) {
                yes(m + " has a name of its own", !names.contains(m.getName()) || c == HalfASize.class && !isPrivate(m));
                yes(m + " has seven parameters at most", m.getParameterCount() <= 7);
            }
        }
        Constructor<?>[] constructors = HalfASize.class.getDeclaredConstructors();
        yes("one constructor", constructors.length == 1 && constructors[0].getParameterCount() == 0);
        yes("it is public", Modifier.isPublic(constructors[0].getModifiers()));
    }

    private static void constants() throws Exception {
        CHECK.due("NONE", -1, HalfASize.NONE);
        CHECK.due("BAD", -2, HalfASize.BAD);
        CHECK.due("STATE", -3, HalfASize.STATE);
        CHECK.due("FULL", -4, HalfASize.FULL);
        CHECK.due("NO", Long.MIN_VALUE / 2, HalfASize.NO);
        List<String> due = List.of("NONE", "BAD", "STATE", "FULL", "NO");
        for (Field f : HalfASize.class.getDeclaredFields()) {
            boolean constant = Modifier.isStatic(f.getModifiers()) && Modifier.isFinal(f.getModifiers());
            yes(f + " is private or of the face", isPrivate(f) || due.contains(f.getName()) && constant);
        }
        yes("NO is a long", HalfASize.class.getField("NO").getType() == long.class);
    }

    private static List<Class<?>> classes() {
        ArrayList<Class<?>> all = new ArrayList<>(List.of(HalfASize.class.getDeclaredClasses()));
        all.add(HalfASize.class);
        return all;
    }

    private static void classesInside() {
        yes("some twelve classes at most", classes().size() <= 12);
        for (Class<?> c : classes()) {
            if (c != HalfASize.class) {
                int m = c.getModifiers();
                yes(c + " is static and not public", Modifier.isStatic(m) && !Modifier.isPublic(m) && !Modifier.isProtected(m));
            }
            int fields = 0;
            for (Field f : c.getDeclaredFields()) {
                fields += Modifier.isStatic(f.getModifiers()) ? 0 : 1;
                yes(f + " is final, if it is static", !Modifier.isStatic(f.getModifiers()) || Modifier.isFinal(f.getModifiers()));
            }
            yes(c + " has some twenty fields at most", fields <= 20);
        }
    }

    private static void source() throws Exception {
        Path file = Path.of("src/main/java/HalfASize.java");
        String text = Files.readString(file);
        for (int i = 0; i < text.length(); i++) {
            if (text.charAt(i) > 126) {
                yes("sign " + (int) text.charAt(i), false);
            }
        }
        String code = text.replaceAll("(?s)/\\*.*?\\*/", "").replaceAll("//[^\n]*", "").replaceAll("\"[^\"\n]*\"", "\"\"");
        String[] never = {
            "\\bthrow\\b", "\\btry\\b", "\\bcatch\\b", "\\bsynchronized\\b", "\\bassert\\b", "->", "::", "Exact\\b", "\\bvolatile\\b",
            "\\bprotected\\b", "\\bpackage\\b", "\\bnative\\b", "\\bfloat\\b", "\\bdouble\\b", "\\bequals\\b", "\\bhashCode\\b",
            "\\bwhile \\(true\\)", "\\bfor \\(;;\\)", "\"\" *\\+", "\\+ *\"\"",
        };
        for (String word : never) {
            yes("no " + word, !Pattern.compile(word).matcher(code).find());
        }
        Matcher library = Pattern.compile("\\b(System|Arrays|Math|Integer|Long|String|StringBuilder)\\.(\\w+)").matcher(code);
        List<String> allowed = List.of("System.arraycopy", "Arrays.fill", "Math.max", "Math.min", "Math.abs", "Integer.bitCount", "Integer.numberOfTrailingZeros");
        while (library.find()) {
            yes(library.group() + " is of the library", allowed.contains(library.group()));
        }
        // All calls of a run share one room: nothing is made but by a constructor.
        for (String line : code.split("\n")) {
            yes("made once: " + line.trim(), !line.contains("new ") || line.contains("private final ") || line.contains(" final int[]"));
        }
    }

    private static void farOff() throws Exception {
        int min = Integer.MIN_VALUE;
        int max = Integer.MAX_VALUE;
        int[] odd = {min, min + 1, -1000, -101, -3, -2, -1, 20, 21, 40, 41, 99, 100, 101, 160, 1000, 1048576, max - 1, max};
        Method[] methods = HalfASize.class.getDeclaredMethods();
        Random random = new Random(7);
        for (int run = 0; run < 200; run++) {
            HalfASize x = new HalfASize();
            for (int call = 0; call < 500; call++) {
                Method m = methods[random.nextInt(methods.length)];
                Object[] a = new Object[m.getParameterCount()];
                for (int i = 0; i < a.length; i++) {
                    a[i] = random.nextInt(4) == 0 ? odd[random.nextInt(odd.length)] : random.nextInt(random.nextBoolean() ? 4 : 100);
                }
                if (!isPrivate(m)) {
                    answers(x, m, a);
                }
            }
        }
    }

    private static void answers(HalfASize x, Method m, Object[] a) throws Exception {
        try {
            m.invoke(x, a);
        } catch (InvocationTargetException e) {
            yes(m.getName() + Arrays.toString(a) + " threw " + e.getCause(), false);
        }
    }
}
