import java.lang.reflect.InvocationTargetException;
import java.lang.reflect.Method;
import java.lang.reflect.Modifier;
import java.util.ArrayList;
import java.util.Comparator;
import java.util.List;
import java.util.Random;

/** That no call throws, whatever its numbers and whatever was called ahead; and that the same calls answer the same. */
public final class NumbersTest {
    private static final int[] NUMBERS = {
        Integer.MIN_VALUE, Integer.MIN_VALUE + 1, -1000, -2, -1, 0, 1, 2, 3, 4, 5, 6, 7, 8, 9, 11, 12, 13, 20, 21, 39, 40, 41,
        60, 61, 63, 64, 1000, Integer.MAX_VALUE - 1, Integer.MAX_VALUE};
    private static final String[] LINES = {"", "q20g1", "q09c1o9", "q06p3s9c5u2g4o9", "q03u9u1s2g3"};

    public static void main(String[] args) throws IllegalAccessException {
        List<Method> calls = new ArrayList<>();
        for (Method method : QueuePlaces.class.getDeclaredMethods()) {
            if (Modifier.isPublic(method.getModifiers())) {
                calls.add(method);
            }
        }
        calls.sort(Comparator.comparing(Method::getName));
        for (int run = 0; run < 400; run++) {
            Check.at("run " + run);
            Check.due("the same calls", digestOfRun(calls, run), digestOfRun(calls, run));
        }
        Check.end("NumbersTest");
    }

    private static long digestOfRun(List<Method> calls, int run) throws IllegalAccessException {
        Random random = new Random(run);
        QueuePlaces x = new QueuePlaces();
        String line = LINES[run % LINES.length];
        x.text(0, line.length());
        for (int i = 0; i < line.length(); i++) {
            x.put(0, i, line.charAt(i));
        }
        x.line(0);
        long h = 1;
        for (int call = line.length() + 2; call < 512; call++) {
            Method method = calls.get(random.nextInt(calls.size()));
            Object[] numbers = new Object[method.getParameterCount()];
            for (int k = 0; k < numbers.length; k++) {
                numbers[k] = random.nextInt(3) > 0 ? random.nextInt(7) : NUMBERS[random.nextInt(NUMBERS.length)];
            }
            try {
                h = 31 * h + ((Number) method.invoke(x, numbers)).longValue();
            } catch (InvocationTargetException thrown) {
                thrown.getCause().printStackTrace(System.out);
                Check.that(method.getName() + " threw", false);
            }
        }
        return h;
    }
}
