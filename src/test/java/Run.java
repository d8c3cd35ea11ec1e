import java.lang.reflect.InvocationTargetException;
import java.lang.reflect.Method;
import java.util.ArrayList;
import java.util.Arrays;
import java.util.HashMap;
import java.util.List;
import java.util.Map;

/** An object and the calls that were made on it, so that a twin can be had that has lived through the same. */
final class Run {
    private static final int MOST_CALLS = 512;
    private static final Map<String, Method> CALLS = new HashMap<>();

    static {
        for (Method method : QueuePlaces.class.getMethods()) {
            if (method.getDeclaringClass() == QueuePlaces.class) {
                CALLS.put(method.getName(), method);
            }
        }
    }

    private final QueuePlaces x = new QueuePlaces();
    private final List<String> names = new ArrayList<>();
    private final List<int[]> numbers = new ArrayList<>();

    static String told(String name, int... with) {
        String all = Arrays.toString(with);
        return name + "(" + all.substring(1, all.length() - 1) + ")";
    }

    long call(String name, int... with) {
        names.add(name);
        numbers.add(with);
        if (names.size() > MOST_CALLS) {
            throw new IllegalStateException("the document promises nothing of call " + names.size());
        }
        Integer[] boxed = Arrays.stream(with).boxed().toArray(Integer[]::new);
        try {
            return ((Number) CALLS.get(name).invoke(x, (Object[]) boxed)).longValue();
        } catch (InvocationTargetException thrown) {
            throw new IllegalStateException(told(name, with) + " threw", thrown.getCause());
        } catch (IllegalAccessException hidden) {
            throw new IllegalStateException(told(name, with) + " is hidden", hidden);
        }
    }

    int callsMade() {
        return names.size();
    }

    Run twin() {
        Run twin = new Run();
        for (int c = 0; c < names.size(); c++) {
            twin.call(names.get(c), numbers.get(c));
        }
        return twin;
    }

    /** The counts of finding() and findings(), which a refusal may change. */
    List<Long> findings() {
        List<Long> seen = new ArrayList<>();
        seen.add(call("finding"));
        for (int f = 1; f <= 5; f++) {
            seen.add(call("findings", f));
        }
        return seen;
    }

    /** All else that can be seen, and what comes of it by undoing and by going on: it changes the object. */
    List<Long> future() {
        List<Long> seen = new ArrayList<>();
        for (String told : new String[] {"asked", "upper", "lower", "digest"}) {
            seen.add(call(told));
        }
        for (int d = (int) call("count", 3) - 1; d >= 0; d--) {
            seen.add(call("undo", d));
            seen.add(call("digest"));
        }
        for (int k = 0; k < 3; k++) {
            seen.add(call("on", k));
            seen.add(call("digest"));
        }
        return seen;
    }
}
