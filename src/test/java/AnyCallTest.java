import java.lang.reflect.InvocationTargetException;
import java.lang.reflect.Method;
import java.lang.reflect.Modifier;
import java.util.ArrayList;
import java.util.Arrays;
import java.util.Comparator;
import java.util.List;
import java.util.NoSuchElementException;
import java.util.Random;

/** Any call with any arguments in any state: nothing but a NoSuchElementException that the face declares ever comes out. */
public final class AnyCallTest {
    private static final int OBJECTS = 1500;
    private static final int CALLS = 512;
    private static final long SEED = 61118L;
    private static final int[] FAR = {Integer.MIN_VALUE, Integer.MAX_VALUE, Integer.MIN_VALUE + 1, -1000000, -1000, -10, -9,
        -2, -1, 9, 10, 12, 13, 20, 31, 32, 33, 63, 64, 90, 91, 99, 100, 500, 540, 999, 1000, 2999, 3000, 4095, 4096, 65535,
        65536, 1 << 20, 1 << 30};
    private static final String[] WORDS = {"stock ", "step ", "times ", "cash ", "option ", "recall ", "call ", "put ",
        "digit ", "spread ", "either ", "over ", "once ", "any ", "from ", "out ", "rebate ", "in ", "above ", "below ",
        "a ", "b ", "c ", "d ", ";", ";", ";", "1 ", "2 ", "5 ", "12 ", "100 ", "999 ", "0 ", "1000 ", "!", "x1 ", "\u00ff"};
    private static final String[] LINES = {"stock 60 5;", "step 1;", "step 1 times 3;", "cash 7;", "step 1 times 8;",
        "option a call 60 any;", "option b put 61 from 2 out below 55 rebate 3;", "option c over a 1 any recall 2;",
        "option d either 60 in above 63 recall 1;", "option e digit 62 9;", "option f spread 58 63 any;"};

    private static int accepted = 0;
    private final Random random;
    private final OptionBench bench = new OptionBench();

    private AnyCallTest(long seed) {
        random = new Random(seed);
    }

    private int any() {
        return random.nextInt(4) == 0 ? FAR[random.nextInt(FAR.length)] : random.nextInt(6);
    }

    /** Mostly LINES that make a BENCH, now and then words that make none. */
    private void feedSomething() {
        StringBuilder text = new StringBuilder();
        for (String line : LINES) {
            text.append(random.nextInt(2) == 0 ? line : "");
        }
        if (random.nextInt(4) == 0) {
            int length = random.nextInt(540);
            while (text.length() < length) {
                text.append(WORDS[random.nextInt(WORDS.length)]);
            }
        }
        Checks.feed(bench, text.substring(0, Math.min(540, text.length())));
        accepted += bench.bench() >= 0 ? 1 : 0;
    }

    private String call(Method method) throws IllegalAccessException {
        Object[] arguments = new Object[method.getParameterCount()];
        for (int i = 0; i < arguments.length; i++) {
            arguments[i] = any();
        }
        try {
            method.invoke(bench, arguments);
        } catch (InvocationTargetException e) {
            boolean declared = method.getExceptionTypes().length == 1;
            if (!declared || e.getCause().getClass() != NoSuchElementException.class) {
                return method.getName() + Arrays.toString(arguments) + " throws " + e.getCause();
            }
        }
        return "";
    }

    public static void main(String[] args) throws IllegalAccessException {
        List<Method> face = new ArrayList<>();
        for (Method method : OptionBench.class.getDeclaredMethods()) {
            if (Modifier.isPublic(method.getModifiers())) {
                face.add(method);
            }
        }
        face.sort(Comparator.comparing(Method::getName));
        int wrong = 0;
        for (int object = 0; object < OBJECTS; object++) {
            AnyCallTest test = new AnyCallTest(SEED + object);
            for (int call = 0; call < CALLS; call++) {
                if (call % 64 == 0) {
                    test.feedSomething();
                }
                String fault = test.call(face.get(test.random.nextInt(face.size())));
                if (!fault.isEmpty() && wrong++ < 20) {
                    System.out.println("object " + object + ", call " + call + ": " + fault);
                }
            }
        }
        System.out.println(wrong == 0 ? "no call throws but by the face" : wrong + " calls throw");
        if (wrong != 0 || accepted < OBJECTS) {
            System.exit(1);
        }
    }
}
