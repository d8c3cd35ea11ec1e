import java.lang.reflect.Method;
import java.lang.reflect.Modifier;
import java.util.List;
import java.util.Map;
import java.util.Set;
import java.util.TreeSet;

/** Which refusal comes first, which ones a call has, and that nothing comes of any of them. */
final class RefusalSentences extends Sentences {
    private static final Map<Integer, String> NAMES = Map.of(BAD, "BAD", FULL, "FULL", STATE, "STATE", -6, "SPENT", NONE, "NONE");
    private static final List<String> FINDINGS = List.of("", "NOTHING", "BEYOND", "UNLIKE", "NOUGHT", "SIZE");
    private static final int[] FEW_NUMBERS = {-1, 0, 1, 2, 6};
    private static final int[] MANY_NUMBERS = {LEAST, -1, 0, 1, 2, 3, 4, 5, 6, 9, 12, 20, 21, 40, 41, 60, 61, MOST};
    private static final int STATES = 4;
    /** What these answer is a number that was told, not a refusal. */
    private static final Set<String> TELLERS = Set.of("asked", "upper", "lower", "digest", "finding");

    RefusalSentences(Document document) {
        super(document);
    }

    @Override
    void all() {
        firstThatFits();
        firstThatFitsOfDeeds();
        firstThatFitsOfPairs();
        numbers();
        nothingChanges();
    }

    private void firstThatFits() {
        terms("ANSWERS. Refused is, the first of these that fits, in this order:");
        refuses(BAD, "row", 6, -1);
        refuses(BAD, "row", -1, LEAST);
        refuses(BAD, "text", 4, -1);
        refuses(BAD, "text", -1, LEAST);
        refuses(BAD, "lay", 6, -1, 0);
        finds(NOTHING, "lay", 5, -1, 0);
        refuses(BAD, "at", -1, -1);
        finds(NOTHING, "at", 0, 40);
        refuses(BAD, "put", 4, -1, 0);
        finds(NOTHING, "put", 3, 60, 0);
        refuses(BAD, "keep", 3);
        refuses(STATE, "keep", 2);
        refuses(BAD, "on", 3);
        finds(NOTHING, "on", 2);
        refuses(BAD, "sets", 21);
        refuses(STATE, "sets", 20);
        refuses(BAD, "sure", 21);
        refuses(STATE, "sure", 20);
        refuses(BAD, "mid", 13);
        refuses(STATE, "mid", 12);
        line("q05p9");
        refuses(BAD, "mark", 1, SOLDIER);
        refuses(BAD, "mark", 0, PERSON);
        finds(UNLIKE, "mark", 0, SOLDIER);
        finds(NOUGHT, "sure", 20);
        refuses(BAD, "line", 4);
        finds(NOTHING, "line", 3);
        call("text", 3, 0);
        refuses(STATE, "line", 3);
    }

    private void firstThatFitsOfDeeds() {
        terms("unless a call says so otherwise.");
        // FULL comes last, behind STATE
        line("q01p9p9");
        ticketsUpTo(12);
        deedsUpTo(40);
        refuses(BAD, "ticket", 2, 0);
        refuses(STATE, "ticket", 1, 0);
        refuses(BAD, "back", 12);
        refuses(FULL, "back", 11);
        refuses(BAD, "loaves", 21);
        refuses(STATE, "loaves", call("count", 1));
        refuses(FULL, "loaves", 20);
        refuses(BAD, "lots", 21, 1);
        refuses(BAD, "lots", 1, 0);
        refuses(FULL, "lots", 20, 1);
        call("undo", 12);
        call("undo", 11);
        deedsUpTo(40);
        stand("10");
        refuses(FULL, "ticket", 1, 1);
        refuses(STATE, "ticket", 1, 0);
    }

    private void firstThatFitsOfPairs() {
        terms("FINDING -3 (finding() tells which), unless a call says so otherwise.");
        // a ROW of three that hold none of PEOPLE; a ROW of two that hold none
        for (String name : new String[] {"lines", "next"}) {
            again();
            row(1, 9, 99, 9);
            row(2, 9, 99);
            refuses(BAD, name, 6);
            refuses(STATE, name, 0);
            refuses(STATE, name, 1);
            refuses(STATE, name, 2);
            line("q01p9");
            finds(NOTHING, name, 0);
            finds(SIZE, name, 1);
            finds(UNLIKE, name, 2);
        }
        again();
        row(1, 9, 99, 9);
        row(2, 9, 99);
        refuses(BAD, "can", 1, 0);
        line("q01p9");
        refuses(BAD, "can", 0, 1);
        refuses(BAD, "can", 1, -1);
        refuses(BAD, "can", 6, 0);
        finds(NOTHING, "can", 0, 0);
        finds(SIZE, "can", 1, 0);
        finds(UNLIKE, "can", 2, 0);
    }

    private void numbers() {
        terms("BAD -1 (a number that is none, or not as told), FULL -2, STATE -4 (not now), SPENT -6 (more than told), FINDING -3");
        Check.due("BAD", QueuePlaces.BAD, -1);
        Check.due("FULL", QueuePlaces.FULL, -2);
        Check.due("FINDING", QueuePlaces.FINDING, -3);
        Check.due("STATE", QueuePlaces.STATE, -4);
        Check.due("SPENT", QueuePlaces.SPENT, -6);
        Check.due("NONE", QueuePlaces.NONE, -9);
    }

    // ---- each call with many numbers

    private void nothingChanges() {
        terms("What is refused changes nothing but finding(), findings().");
        for (Method method : QueuePlaces.class.getDeclaredMethods()) {
            if (Modifier.isPublic(method.getModifiers()) && !TELLERS.contains(method.getName())) {
                Set<String> seen = new TreeSet<>();
                for (int state = 0; state < STATES; state++) {
                    again();
                    comeTo(state);
                    callWithAll(method.getName(), method.getParameterCount(), seen);
                }
                Set<String> named = document().refusalsOf(method.getName());
                Check.that(method.getName() + " has the refusals " + seen + ", its promise " + named, seen.equals(named));
            }
        }
    }

    private void comeTo(int state) {
        if (state == 1) {
            line(SIX);
            call("ticket", 0, 1);
            call("ticket", 1, 1);
            call("keep", 0);
            call("ticket", 3, 2);
            call("loaves", 5);
            row(0, 1, 2, 3);
            row(1);
            row(2, 9, 9);
            row(4, 5, 1);
            write(1, "q05p");
            call("mid", 5);
            call("at", 0, 2);
        } else if (state == 2) {
            line("q05p1o2");
            ticketsUpTo(11);
            call("keep", 0);
            deedsUpTo(40);
            call("odds", 0, 5);
        } else if (state == 3) {
            line("q00p9g9c9");
            row(0, 0, 1);
            call("keep", 2);
            call("ticket", 2, 0);
            call("keep", 0);
        }
    }

    private void callWithAll(String name, int parameters, Set<String> seen) {
        int[] choices = parameters > 2 ? FEW_NUMBERS : MANY_NUMBERS;
        List<Long> due = twin().future();
        int[] chosen = new int[parameters];
        boolean more = true;
        while (more) {
            int[] numbers = new int[parameters];
            for (int k = 0; k < parameters; k++) {
                numbers[k] = choices[chosen[k]];
            }
            callOnATwin(name, numbers, due, seen);
            more = goOn(chosen, choices.length);
        }
    }

    /** The next choice, false behind the last one. */
    private static boolean goOn(int[] chosen, int choices) {
        int k = 0;
        while (k < chosen.length && chosen[k] == choices - 1) {
            chosen[k] = 0;
            k++;
        }
        if (k < chosen.length) {
            chosen[k]++;
        }
        return k < chosen.length;
    }

    private void callOnATwin(String name, int[] numbers, List<Long> due, Set<String> seen) {
        Run run = twin();
        int findings = sum(run.findings());
        int answer = (int) run.call(name, numbers);
        if (answer < 0) {
            int more = sum(run.findings()) - findings;
            Check.due(Run.told(name, numbers) + ", findings more", more, answer == FINDING ? 1 : 0);
            seen.add(answer == FINDING ? FINDINGS.get((int) run.call("finding")) : NAMES.getOrDefault(answer, "" + answer));
            Check.that(Run.told(name, numbers) + " changes nothing", run.future().equals(due));
        }
    }

    private static int sum(List<Long> findings) {
        return findings.stream().skip(1).mapToInt(Long::intValue).sum();
    }
}
