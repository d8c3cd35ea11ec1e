import java.io.IOException;
import java.lang.reflect.Modifier;
import java.util.ArrayList;
import java.util.BitSet;
import java.util.HashMap;
import java.util.List;
import java.util.Map;
import java.util.Set;
import java.util.TreeSet;

/** What of ../shared/LANGUAGE.md can be seen in the compiled class: what calls what, and what makes objects. */
public final class BytecodeTest {
    private static final int MOST_CALLS_DEEP = 8;
    private static final Set<String> LIBRARY = Set.of("java/lang/Object.<init>()V", "java/lang/Math.max(II)I",
        "java/lang/Math.min(II)I", "java/lang/Math.abs(I)I", "java/lang/Integer.bitCount(I)I",
        "java/lang/System.arraycopy(Ljava/lang/Object;ILjava/lang/Object;II)V");

    private final Map<String, Bytecode.Body> bodies;
    private final Map<String, Integer> depths = new HashMap<>();

    private BytecodeTest(Map<String, Bytecode.Body> bodies) {
        this.bodies = bodies;
    }

    public static void main(String[] args) throws IOException {
        Check.at("bytecode");
        List<Class<?>> classes = new ArrayList<>();
        classes.add(QueuePlaces.class);
        classes.addAll(List.of(QueuePlaces.class.getDeclaredClasses()));
        Bytecode bytecode = new Bytecode(classes);
        Check.that("methods were read", bytecode.bodies().size() > 100);
        new BytecodeTest(bytecode.bodies()).all();
        Check.end("BytecodeTest");
    }

    private void all() {
        for (Bytecode.Body body : bodies.values()) {
            instructions(body);
            for (String call : body.calls()) {
                Check.that("4: " + body.name() + " calls " + call, bodies.containsKey(call) || LIBRARY.contains(call));
            }
            Check.that("8: a private static method calls itself, or none: " + body.name(), !reaches(body)
                || body.calls().contains(body.name()) && Modifier.isPrivate(body.access()) && Modifier.isStatic(body.access()));
            Check.that("8: methods that call one another: " + body.name(), !reachesByOthers(body));
        }
        for (Bytecode.Body body : bodies.values()) {
            int depth = depthOf(body.name());
            Check.that("11: calls go " + depth + " deep from " + body.name(), depth <= MOST_CALLS_DEEP);
        }
    }

    private static void instructions(Bytecode.Body body) {
        BitSet used = body.instructions();
        Check.that("2: no lambda, 10: no joining of texts: " + body.name(), !used.get(Bytecode.INVOKEDYNAMIC));
        Check.that("6: nothing thrown or caught: " + body.name(), !used.get(Bytecode.ATHROW) && body.handlers() == 0);
        Check.that("6: not synchronized: " + body.name(), !used.get(Bytecode.MONITORENTER) && !Modifier.isSynchronized(body.access()));
        Check.that("6: no cast of references: " + body.name(), !used.get(Bytecode.CHECKCAST));
        boolean makes = used.get(Bytecode.NEW) || used.get(Bytecode.NEWARRAY) || used.get(Bytecode.ANEWARRAY)
            || used.get(Bytecode.MULTIANEWARRAY);
        boolean isBeginning = body.name().contains(".<init>") || body.name().contains(".<clinit>");
        Check.that("12: objects are made by constructors alone: " + body.name(), !makes || isBeginning);
    }

    private boolean reaches(Bytecode.Body body) {
        return body.calls().contains(body.name()) || reachesByOthers(body);
    }

    /** Whether a method comes to be called again by others that it calls. */
    private boolean reachesByOthers(Bytecode.Body body) {
        Set<String> reached = new TreeSet<>();
        List<String> open = new ArrayList<>(body.calls());
        open.remove(body.name());
        while (!open.isEmpty()) {
            String name = open.remove(open.size() - 1);
            if (name.equals(body.name())) {
                return true;
            }
            if (bodies.containsKey(name) && reached.add(name)) {
                open.addAll(bodies.get(name).calls());
            }
        }
        return false;
    }

    /** How many calls stand open at most, from a method on; a call of its own is recursion and not counted. */
    private int depthOf(String name) {
        if (!bodies.containsKey(name)) {
            return 1;
        }
        if (!depths.containsKey(name)) {
            // what calls one another would go round here for ever
            depths.put(name, MOST_CALLS_DEEP + 1);
            int deepest = 0;
            for (String call : bodies.get(name).calls()) {
                deepest = Math.max(deepest, call.equals(name) ? 0 : depthOf(call));
            }
            depths.put(name, deepest + 1);
        }
        return depths.get(name);
    }
}
