import java.io.IOException;
import java.lang.reflect.InvocationTargetException;
import java.lang.reflect.Method;
import java.lang.reflect.Modifier;
import java.nio.charset.StandardCharsets;
import java.nio.file.Files;
import java.nio.file.Path;
import java.util.Arrays;
import java.util.Comparator;
import java.util.NoSuchElementException;
import java.util.function.IntToLongFunction;

/** What the tests by hand share: they extend this class, and each static method without parameters is a test. */
abstract class Checks {
    static final int NONE = OptionBench.NONE;
    static final int HIDDEN = OptionBench.HIDDEN;
    static final int FAR = Integer.MAX_VALUE;
    static final int LOW = Integer.MIN_VALUE;

    /** STRIPPED 10; 8, 12; 6, 10, 14; up and down are weighed alike. */
    static final String LATTICE = "stock 10 4;step 2 times 2;";
    /** STRIPPED 10; 6, 14; 2, 10, 18; up and down are weighed alike. */
    static final String WIDE = "stock 10 8;step 4 times 2;";

    private static final Path DOCUMENT = Path.of("../shared/DOC.md");

    interface Call {
        long answer();
    }

    private static String running = "";
    private static int wrong = 0;

    // ---- what is due ----

    static void wrong(String what) {
        wrong++;
        System.out.println(running + lines() + ": " + what);
    }

    private static String lines() {
        StringBuilder lines = new StringBuilder();
        for (StackTraceElement frame : new Throwable().getStackTrace()) {
            if (frame.getClassName().endsWith("Test") && !frame.getMethodName().equals("main")) {
                lines.append(", line ").append(frame.getLineNumber());
            }
        }
        return lines.toString();
    }

    static void is(long got, long due) {
        if (got != due) {
            wrong("answered " + got + ", due is " + due);
        }
    }

    static void is(boolean got, boolean due) {
        is(got ? 1 : 0, due ? 1 : 0);
    }

    static void fraction(IntToLongFunction part, long above, long below) {
        long gotAbove = part.applyAsLong(0);
        long gotBelow = part.applyAsLong(1);
        if (gotAbove != above || gotBelow != below) {
            wrong("answered " + gotAbove + " by " + gotBelow + ", due is " + above + " by " + below);
        }
    }

    static void missing(Call call) {
        try {
            wrong("answered " + call.answer() + ", due is NoSuchElementException");
        } catch (NoSuchElementException e) {
            return;
        }
    }

    // ---- texts ----

    static String blanks(int n) {
        return " ".repeat(n);
    }

    static void feed(OptionBench x, String text) {
        byte[] bytes = text.getBytes(StandardCharsets.ISO_8859_1);
        int before = x.count(6);
        byte[] padded = Arrays.copyOf(bytes, (bytes.length + 19) / 20 * 20);
        for (int i = 0; i < padded.length; i += 20) {
            int[] n = new int[5];
            for (int b = 0; b < 20; b++) {
                n[b / 4] = n[b / 4] << 8 | padded[i + b] & 255;
            }
            x.feed(n[0], n[1], n[2], n[3], n[4]);
        }
        x.end(before + bytes.length);
    }

    static OptionBench of(String text) {
        OptionBench x = new OptionBench();
        feed(x, text);
        if (x.bench() < 0) {
            throw new IllegalArgumentException(text);
        }
        return x;
    }

    /** The text has this FAULT at this place, and the BENCH that was there stays. */
    static void faulty(String text, int kind, int place) {
        OptionBench x = of("stock 55 5;step 3;cash 7;option z put 66;");
        feed(x, text);
        int got = x.bench();
        if (got != -1000 - place || x.fault() != kind) {
            wrong("'" + text + "' answered " + got + " with FAULT " + x.fault() + ", due is " + (-1000 - place) + " with "
                + kind);
        }
        is(x.count(0), 1);
        is(x.count(1), 1);
        is(x.count(2), 5);
        is(x.count(3), 55);
        is(x.count(4), 7);
        is(x.count(6), 0);
    }

    static void fine(String text, int options) {
        OptionBench x = new OptionBench();
        feed(x, text);
        int got = x.bench();
        if (got != options || x.fault() != 0) {
            wrong("'" + text + "' answered " + got + " with FAULT " + x.fault() + ", due is " + options);
        }
    }

    // ---- all tests of a class ----

    static void runAll(Class<?> tests) throws IllegalAccessException, IOException {
        Method[] methods = tests.getDeclaredMethods();
        Arrays.sort(methods, Comparator.comparing(Method::getName));
        String document = Files.exists(DOCUMENT) ? Files.readString(DOCUMENT) : null;
        int run = 0;
        for (Method method : methods) {
            boolean open = Modifier.isStatic(method.getModifiers()) && !Modifier.isPrivate(method.getModifiers());
            if (open && !method.isSynthetic() && method.getParameterCount() == 0) {
                running = method.getName();
                quoted(method.getAnnotation(Says.class), document);
                runOne(method);
                run++;
            }
        }
        System.out.println(run + " tests, " + wrong + " answers are not as due");
        if (wrong != 0 || run == 0) {
            System.exit(1);
        }
    }

    /** A test whose sentence the document no longer has must be looked at again. */
    private static void quoted(Says says, String document) {
        if (says == null || document == null) {
            return;
        }
        for (String part : says.value().split(" \\.\\. ")) {
            if (!document.contains(part)) {
                wrong("the document does not say '" + part + "'");
            }
        }
    }

    private static void runOne(Method method) throws IllegalAccessException {
        try {
            method.setAccessible(true);
            method.invoke(null);
        } catch (InvocationTargetException e) {
            wrong("broke off: " + e.getCause());
        }
    }
}
