import java.lang.reflect.InvocationTargetException;
import java.lang.reflect.Method;
import java.lang.reflect.Modifier;
import java.util.ArrayList;
import java.util.Comparator;
import java.util.List;
import java.util.Random;

/**
 * Rules 7 and 13 of LANGUAGE.md: whatever numbers the calls are given, in whatever state, none throws, and two objects
 * that are asked the same answer the same. Runs by draws from fixed seeds; `java AnyNumbersTest 100000` makes more.
 */
public final class AnyNumbersTest {
    private static final int RUNS = 1500;
    private static final int CALLS = 512;
    private static final int[] FARTHEST = {Integer.MIN_VALUE, Integer.MIN_VALUE + 1, Integer.MAX_VALUE - 1,
        Integer.MAX_VALUE, -1, -2, 41, 251, 256, 1000, 1 << 16, 1 << 30};
    private static final String[] WORDS = {"fare ", "hours ", "pay ", "back ", "pass ", "person ", "duty ", "at ",
        "purse ", ";", " ", "0 ", "1 ", "2 ", "3 ", "6 ", "9", "12 ", "?", "A"};

    private final Random random;
    private final SundayIsAPlace x = new SundayIsAPlace();
    private final SundayIsAPlace same = new SundayIsAPlace();
    private int asked = 0;

    private AnyNumbersTest(int run) {
        random = new Random(run);
    }

    /** Sorted, since in which order the machine tells them is free. */
    private static List<Method> face() {
        List<Method> face = new ArrayList<>();
        for (Method m : SundayIsAPlace.class.getDeclaredMethods()) {
            if (Modifier.isPublic(m.getModifiers())) {
                face.add(m);
            }
        }
        face.sort(Comparator.comparing(Method::getName));
        return face;
    }

    private int number() {
        switch (random.nextInt(12)) {
            case 0: return FARTHEST[random.nextInt(FARTHEST.length)];
            case 1: return random.nextInt(42) - 1;
            case 2: return random.nextInt();
            default: return random.nextInt(random.nextBoolean() ? 3 : 8);
        }
    }

    private Object argument(Class<?> of) {
        if (of == boolean.class) {
            return random.nextBoolean();
        }
        int v = number();
        boolean wide = of == long.class && random.nextInt(8) == 0;
        return of == long.class ? (Object) (wide ? random.nextLong() : (long) v) : (Object) v;
    }

    private void ask(Method m, Object... arguments) throws IllegalAccessException {
        StringBuilder call = new StringBuilder(m.getName());
        for (Object a : arguments) {
            call.append(' ').append(a);
        }
        asked++;
        try {
            long got = ((Number) m.invoke(x, arguments)).longValue();
            Due.is(call + " of one asked the same", ((Number) m.invoke(same, arguments)).longValue(), got);
        } catch (InvocationTargetException e) {
            Due.is(call + " threw " + e.getCause(), 1, 0);
        }
    }

    private void feed(Method feed) throws IllegalAccessException {
        String text = WORDS[random.nextInt(WORDS.length)];
        for (int i = 0; i < text.length() && asked < CALLS; i++) {
            ask(feed, (int) text.charAt(i));
        }
    }

    private void goOn(List<Method> face, Method feed) throws IllegalAccessException {
        while (asked < CALLS && !Due.anyWrong()) {
            if (random.nextInt(12) == 0) {
                feed(feed);
            } else {
                Method m = face.get(random.nextInt(face.size()));
                Object[] arguments = new Object[m.getParameterCount()];
                for (int i = 0; i < arguments.length; i++) {
                    arguments[i] = argument(m.getParameterTypes()[i]);
                }
                ask(m, arguments);
            }
        }
    }

    public static void main(String[] args) throws ReflectiveOperationException {
        int runs = args.length > 0 ? Integer.parseInt(args[0]) : RUNS;
        List<Method> face = face();
        Method feed = SundayIsAPlace.class.getMethod("feed", int.class);
        for (int run = 0; run < runs && !Due.anyWrong(); run++) {
            new AnyNumbersTest(run).goOn(face, feed);
        }
        Due.end("AnyNumbersTest");
    }
}
