import java.lang.reflect.InvocationTargetException;
import java.lang.reflect.Method;
import java.lang.reflect.Modifier;
import java.util.Arrays;
import java.util.Comparator;
import java.util.NoSuchElementException;
import java.util.Random;

/** Every call with any numbers in any state: none but a declared exception may come, and every call ends. */
public final class WildTest {
    private static final int[] NUMBERS = {
        Integer.MIN_VALUE, Integer.MIN_VALUE + 1, -1000, -32, -31, -3, -2, -1, 0, 1, 2, 3, 4, 5, 6, 7, 8, 9, 10, 11,
        15, 16, 20, 29, 30, 31, 32, 33, 63, 64, 255, 256, 399, 400, 901, 940, 941, Integer.MAX_VALUE - 1, Integer.MAX_VALUE};
    private static final String[] TEXTS = {
        "deed a;deed b;monk m;chapter k 2;chapter l 1;must k a;bars l a;work m a 20;work m b 1;atone b;once;",
        "deed a;monk m;chapter k 9;bars k a;work m a 3;", "deed a;monk m;", "chapter k 1;chapter l 9;once;", "",
        "draw 1;m does a;night;day 30;", "fold k;night;fold l;night;fold k;", "due or not (done m and left > 1)",
        "number = 0", "\0\1", "\1\0\0\0", "\0\1\0\1\1\0"};

    private WildTest() {
    }

    public static void main(String[] args) throws IllegalAccessException {
        Method[] face = Arrays.stream(RuleByLot.class.getDeclaredMethods())
                .filter(m -> Modifier.isPublic(m.getModifiers()))
                .sorted(Comparator.comparing(Method::getName)).toArray(Method[]::new);
        Random lot = new Random(5);
        for (int run = 0; run < 1000; run++) {
            RuleByLot x = new RuleByLot();
            for (int i = 0; i < 160; i++) {
                if (lot.nextInt(4) == 0) {
                    x.end(0);
                    Checks.put(x, TEXTS[lot.nextInt(TEXTS.length)]);
                }
                Method m = face[lot.nextInt(face.length)];
                Integer[] numbers = new Integer[m.getParameterCount()];
                for (int k = 0; k < numbers.length; k++) {
                    numbers[k] = NUMBERS[lot.nextInt(NUMBERS.length)];
                }
                call(x, m, numbers);
            }
        }
        Checks.finish("WildTest");
    }

    private static void call(RuleByLot x, Method m, Object[] numbers) throws IllegalAccessException {
        boolean asDue = true;
        try {
            m.invoke(x, numbers);
        } catch (InvocationTargetException e) {
            asDue = e.getCause().getClass() == NoSuchElementException.class && m.getExceptionTypes().length == 1;
        }
        Checks.due(m.getName() + Arrays.toString(numbers) + " ends as told", asDue, true);
    }
}
