import java.io.IOException;
import java.lang.management.ManagementFactory;
import java.lang.reflect.Constructor;
import java.lang.reflect.Field;
import java.lang.reflect.Method;
import java.lang.reflect.Modifier;
import java.nio.file.Files;
import java.nio.file.Path;
import java.util.Arrays;
import java.util.List;
import java.util.NoSuchElementException;
import java.util.TreeSet;
import java.util.regex.Pattern;

/** The form of OptionBench.java: its face, some rules of LANGUAGE.md that can be seen from outside, its room. */
public final class FormTest {
    private static final List<String> FACE = Arrays.asList("int feed(int,int,int,int,int)", "boolean end(int)",
        "int bench()", "int fault()", "int count(int)", "int step(int,int)", "int option(int,int)",
        "int price(int,int,int)", "long pays(int,int,int,int)!", "long value(int,int,int,int)!",
        "long plain(int,int,int,int)!", "long held(int,int,int,int)!", "int does(int,int,int)",
        "long stands(int,int,int,int)!", "int frontier(int,int)", "int ways(int,int,int)",
        "long ending(int,int,int,int)!", "long life(int,int)!", "long gain(int,int,int,int)!", "int richest(int,int)",
        "int strike(int,int)", "long early(int,int)!", "long worthBy(int,int,int,int)!", "int bestBy(int,int)",
        "long reach(int,int,int)!", "int own(int,int)", "long book(int,int,int)!", "long cover(int,int,int,int)!",
        "int extreme(int)", "int move(int)", "int fall(int,int)", "int cash(int,int)", "int restrike(int,int)",
        "int undo()", "boolean image(int)", "boolean restore(int)");
    private static final String[] RULED_OUT = {"->", "::", "\\bcatch\\b", "\\bfinally\\b", "\\bsynchronized\\b",
        "\\bassert\\b", "Exact\\(", "\\bString\\[\\]", "\\bdouble\\b", "\\bfloat\\b", "System\\.", "\\bprotected\\b",
        "getMessage", "\\bpackage\\b", "\\bvar\\b"};
    private static final int ELEMENTS_OF_ONE_BENCH = 10000;
    private static final int BYTES_OF_500_CALLS = 100000;

    private static int wrong = 0;

    private static void due(boolean good, String what) {
        if (!good) {
            wrong++;
            System.out.println(what);
        }
    }

    private static String shown(Method m) {
        StringBuilder s = new StringBuilder(m.getReturnType().getName()).append(' ').append(m.getName()).append('(');
        Class<?>[] types = m.getParameterTypes();
        for (int i = 0; i < types.length; i++) {
            s.append(i == 0 ? "" : ",").append(types[i].getName());
        }
        s.append(')');
        return s.append(Arrays.asList(m.getExceptionTypes()).contains(NoSuchElementException.class) ? "!" : "").toString();
    }

    private static void face() {
        due(Modifier.isPublic(OptionBench.class.getModifiers()) && Modifier.isFinal(OptionBench.class.getModifiers()),
            "the class is public and final");
        TreeSet<String> open = new TreeSet<>();
        TreeSet<String> names = new TreeSet<>();
        for (Method m : OptionBench.class.getDeclaredMethods()) {
            if (!Modifier.isPrivate(m.getModifiers())) {
                open.add(shown(m));
                names.add(m.getName());
            }
        }
        due(open.equals(new TreeSet<>(FACE)), "open methods: " + open);
        for (Constructor<?> c : OptionBench.class.getDeclaredConstructors()) {
            due(Modifier.isPublic(c.getModifiers()) && c.getParameterCount() == 0, "constructor " + c);
        }
        for (Field f : OptionBench.class.getDeclaredFields()) {
            boolean constant = f.getName().equals("NONE") || f.getName().equals("HIDDEN");
            due(constant == !Modifier.isPrivate(f.getModifiers()), "field " + f);
            due(!Modifier.isStatic(f.getModifiers()) || Modifier.isFinal(f.getModifiers()), "static field " + f);
        }
        due(OptionBench.NONE == -1 && OptionBench.HIDDEN == -1000000, "the constants");
        inside(names);
    }

    private static void inside(TreeSet<String> names) {
        Class<?>[] classes = OptionBench.class.getDeclaredClasses();
        due(classes.length <= 12, classes.length + " classes");
        for (Class<?> c : classes) {
            due(Modifier.isStatic(c.getModifiers()), c + " is not static");
            long own = Arrays.stream(c.getDeclaredFields()).filter(f -> !Modifier.isStatic(f.getModifiers())).count();
            due(own <= 20, c + " has " + own + " fields");
            methods(c, names);
        }
        for (Method m : OptionBench.class.getDeclaredMethods()) {
            due(!Modifier.isPrivate(m.getModifiers()) || !names.contains(m.getName()), "private " + m);
            due(m.getParameterCount() <= 7, "parameters of " + m);
        }
    }

    private static void methods(Class<?> c, TreeSet<String> names) {
        for (Method m : c.getDeclaredMethods()) {
            due(!names.contains(m.getName()), "inside bears a name of the face: " + m);
            due(m.getParameterCount() <= 7, "parameters of " + m);
        }
    }

    private static void source() throws IOException {
        List<String> lines = Files.readAllLines(Path.of("src/main/java/OptionBench.java"));
        int opened = 0;
        for (int i = 0; i < lines.size(); i++) {
            String line = lines.get(i);
            String code = line.replaceAll("\"[^\"]*\"|//.*", "");
            boolean comment = line.trim().startsWith("*") || line.trim().startsWith("/*");
            for (String word : RULED_OUT) {
                due(comment || !Pattern.compile(word).matcher(code).find(), "line " + (i + 1) + " has " + word);
            }
            if (code.matches(" {4,8}[a-z].*\\) (throws \\w+ )?\\{") && !code.contains(" class ")) {
                opened = i;
            } else if (code.matches(" {4,8}\\}")) {
                due(i - opened < 60, "a method of " + (i - opened) + " lines ends at line " + (i + 1));
            }
        }
    }

    private static int elements(Object o, java.util.IdentityHashMap<Object, Object> seen) throws IllegalAccessException {
        if (o == null || o instanceof String || seen.put(o, o) != null) {
            return 0;
        }
        int sum = 0;
        if (o.getClass().isArray()) {
            sum = java.lang.reflect.Array.getLength(o);
            if (o instanceof Object[]) {
                for (Object part : (Object[]) o) {
                    sum += elements(part, seen);
                }
            }
            return sum;
        }
        for (Field f : o.getClass().getDeclaredFields()) {
            if (!Modifier.isStatic(f.getModifiers())) {
                f.setAccessible(true);
                sum += 1 + (f.getType().isPrimitive() ? 0 : elements(f.get(o), seen));
            }
        }
        return sum;
    }

    /** Calls use the rows that the constructor made: all calls of a run share one room. */
    private static void room() throws IllegalAccessException {
        OptionBench x = new OptionBench();
        int all = elements(x, new java.util.IdentityHashMap<>());
        due(all <= ELEMENTS_OF_ONE_BENCH, "a bench has " + all + " fields and elements");
        manyCalls(x);
        com.sun.management.ThreadMXBean meter = (com.sun.management.ThreadMXBean) ManagementFactory.getThreadMXBean();
        long id = Thread.currentThread().getId();
        long before = meter.getThreadAllocatedBytes(id);
        manyCalls(x);
        long made = meter.getThreadAllocatedBytes(id) - before;
        due(made < BYTES_OF_500_CALLS, "500 calls made " + made + " bytes of objects");
    }

    private static void manyCalls(OptionBench x) {
        for (int round = 0; round < 20; round++) {
            // "step 1 times 9;" and "option a call 99 any;"
            x.feed(0x73746570, 0x20312074, 0x696d6573, 0x20393b20, 0x20202020);
            x.feed(0x6f707469, 0x6f6e2061, 0x2063616c, 0x6c203939, 0x20616e79);
            x.feed(0x3b202020, 0x20202020, 0x20202020, 0x20202020, 0x20202020);
            due(x.bench() == 1, "bench");
            x.own(0, 3);
            x.move(120 + round);
            x.value(0, 0, 0, 0);
            x.plain(0, 3, 1, 1);
            x.held(0, 2, 1, 0);
            x.stands(0, 1, 1, 0);
            x.frontier(0, 9);
            x.ways(0, 9, 4);
            x.ending(0, 9, 0, 0);
            x.life(0, 0);
            x.gain(0, 77, 4, 0);
            x.richest(0, 4);
            x.strike(0, 7);
            x.early(0, 0);
            x.worthBy(0, 110, 1, 0);
            x.bestBy(0, 1);
            x.reach(110, 0, 0);
            x.book(2, 1, 0);
            x.cover(2, 1, 1, 0);
            x.image(0);
            x.restore(0);
        }
    }

    public static void main(String[] args) throws IOException, IllegalAccessException {
        face();
        source();
        room();
        System.out.println(wrong == 0 ? "the form is as ruled" : wrong + " things are not as ruled");
        if (wrong != 0) {
            System.exit(1);
        }
    }
}
