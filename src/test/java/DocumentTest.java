import java.io.IOException;
import java.lang.reflect.Constructor;
import java.lang.reflect.Field;
import java.lang.reflect.Method;
import java.lang.reflect.Modifier;
import java.nio.file.Files;
import java.nio.file.Path;
import java.util.Arrays;
import java.util.TreeSet;
import java.util.regex.Matcher;
import java.util.regex.Pattern;

/** The document against the tests and the class: each sentence is quoted by a test, the face is the one told. */
public final class DocumentTest {
    private static final Path DOCUMENT = Path.of("../shared/DOC.md");
    private static final Class<?>[] QUOTING = {OrdinaryTest.class, BoundaryTextTest.class, BoundaryNodeTest.class,
        BoundaryOwnerTest.class, BoundaryChangeTest.class};
    private static final int PROMISES = 37;

    private static int wrong = 0;

    private static void due(boolean good, String what) {
        if (!good) {
            wrong++;
            System.out.println(what);
        }
    }

    // ---- each sentence has a test ----

    private static void sentences(String document) {
        boolean[] seen = new boolean[document.length()];
        for (Class<?> tests : QUOTING) {
            for (Method method : tests.getDeclaredMethods()) {
                Says says = method.getAnnotation(Says.class);
                if (says != null) {
                    markQuotes(document, says.value(), seen);
                }
            }
        }
        markRest(document, "(?m)^#.*$|^```\\w*$|^The constants: |^`[^`]*\\)(?: throws \\w+)?`: |==== 2\\.", seen);
        int start = document.indexOf("## Terms");
        int end = document.indexOf("## Not promised");
        due(start >= 0 && end > start, "the document has no Terms or no end");
        for (int i = Math.max(start, 0); i < end; i++) {
            if (!seen[i] && Character.isLetterOrDigit(document.charAt(i))) {
                int behind = i;
                while (behind < end && !seen[behind]) {
                    behind++;
                }
                due(false, "no test quotes '" + document.substring(i, behind).trim() + "'");
                i = behind;
            }
        }
    }

    private static void markQuotes(String document, String quotes, boolean[] seen) {
        for (String quote : quotes.split(" \\.\\. ")) {
            for (int at = document.indexOf(quote); at >= 0; at = document.indexOf(quote, at + 1)) {
                Arrays.fill(seen, at, at + quote.length(), true);
            }
        }
    }

    /** Headings and the like tell nothing that a call could answer. */
    private static void markRest(String document, String pattern, boolean[] seen) {
        Matcher found = Pattern.compile(pattern).matcher(document);
        while (found.find()) {
            Arrays.fill(seen, found.start(), found.end(), true);
        }
    }

    /** A promise that came anew has no test yet. */
    private static void promises(String document) {
        int told = 0;
        Matcher heading = Pattern.compile("(?m)^## Promise (\\d+): ").matcher(document);
        while (heading.find()) {
            told++;
            due(Integer.parseInt(heading.group(1)) == told, "promise " + told + " is told as " + heading.group(1));
        }
        due(told == PROMISES, told + " promises");
        TreeSet<Integer> tested = new TreeSet<>();
        for (Method method : PromiseTest.class.getDeclaredMethods()) {
            Matcher name = Pattern.compile("promise(\\d+)\\D*").matcher(method.getName());
            if (name.matches()) {
                tested.add(Integer.parseInt(name.group(1)));
            }
        }
        for (int promise = 1; promise <= told; promise++) {
            due(tested.contains(promise), "PromiseTest has nothing for promise " + promise);
        }
    }

    // ---- the face ----

    private static void face(String document) {
        TreeSet<String> told = new TreeSet<>();
        Matcher block = Pattern.compile("(?s)```java\n(.*?)```").matcher(document);
        due(block.find(), "the document has no face");
        Matcher line = Pattern.compile("(?m)^ {4}public (.*);$").matcher(block.group(1));
        while (line.find()) {
            String member = line.group(1);
            boolean method = member.contains("(");
            due(!method || document.contains("`" + member + "`"), "no promise is told of: " + member);
            told.add(method ? withoutNames(member) : member);
        }
        TreeSet<String> open = openMembers();
        for (String member : told) {
            due(open.contains(member), "the class does not have: " + member);
        }
        for (String member : open) {
            due(told.contains(member), "the document does not have: " + member);
        }
    }

    /** A parameter's name is free: the compiler does not keep it. */
    private static String withoutNames(String member) {
        return member.replaceAll("int \\w+(?=[,)])", "int");
    }

    private static TreeSet<String> openMembers() {
        TreeSet<String> open = new TreeSet<>();
        for (Field field : OptionBench.class.getFields()) {
            open.add("static final " + field.getType() + " " + field.getName() + " = " + constant(field));
        }
        for (Constructor<?> made : OptionBench.class.getConstructors()) {
            open.add(made.getName() + "(" + (made.getParameterCount() == 0 ? "" : "..") + ")");
        }
        for (Method method : OptionBench.class.getDeclaredMethods()) {
            if (!Modifier.isPrivate(method.getModifiers())) {
                open.add(shown(method));
            }
        }
        return open;
    }

    private static String constant(Field field) {
        try {
            return String.valueOf(field.get(null));
        } catch (IllegalAccessException e) {
            return "none";
        }
    }

    private static String shown(Method method) {
        StringBuilder shown = new StringBuilder(method.getReturnType() + " " + method.getName() + "(");
        String between = "";
        for (Class<?> type : method.getParameterTypes()) {
            shown.append(between).append(type);
            between = ", ";
        }
        shown.append(')');
        for (Class<?> thrown : method.getExceptionTypes()) {
            shown.append(" throws ").append(thrown.getSimpleName());
        }
        return shown.toString();
    }

    public static void main(String[] args) throws IOException {
        if (!Files.exists(DOCUMENT)) {
            System.out.println("there is no " + DOCUMENT + " to compare with");
            return;
        }
        String document = Files.readString(DOCUMENT);
        sentences(document);
        promises(document);
        face(document);
        System.out.println(wrong == 0 ? "the document is told whole" : wrong + " things are not as the document tells");
        if (wrong != 0) {
            System.exit(1);
        }
    }
}
