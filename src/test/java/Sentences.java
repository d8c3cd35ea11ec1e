import java.util.List;

/** What the tests of the document's sentences share: each begins with the words that it tests, on a new object. */
abstract class Sentences {
    static final int BAD = -1, FULL = -2, FINDING = -3, STATE = -4, NONE = -9;
    static final int NOTHING = 1, BEYOND = 2, UNLIKE = 3, NOUGHT = 4, SIZE = 5;
    static final int LEAST = Integer.MIN_VALUE, MOST = Integer.MAX_VALUE;
    static final int PERSON = 0, SOLDIER = 1, CHILD = 2, UMBRELLA = 3, GENERAL = 4, ORPHAN = 5;
    static final String SIX = "q06 p3s9c5u2g4o9";

    private final Document document;
    private Run run;

    Sentences(Document document) {
        this.document = document;
    }

    abstract void all();

    // ---- a test's beginning

    void promise(int number, String words) {
        sentence("Promise " + number, words);
    }

    void terms(String words) {
        sentence("Terms", words);
    }

    void whatItIs(String words) {
        sentence("What it is", words);
    }

    Document document() {
        return document;
    }

    private void sentence(String section, String words) {
        Check.begin(section + " \"" + words + "\"");
        Check.that("the document says so", document.cite(section, words));
        again();
    }

    /** Goes on with a new object. */
    void again() {
        run = new Run();
    }

    void again(String line) {
        again();
        line(line);
    }

    int callsMade() {
        return run.callsMade();
    }

    /** One that has lived through the same as this object. */
    Run twin() {
        return run.twin();
    }

    // ---- calls and what they answer

    int call(String name, int... numbers) {
        return (int) run.call(name, numbers);
    }

    long digest() {
        return run.call("digest");
    }

    void answers(long due, String name, int... numbers) {
        Check.due(Run.told(name, numbers), run.call(name, numbers), due);
    }

    void tells(long due, String name, int... numbers) {
        answers(1, name, numbers);
        Check.due(Run.told(name, numbers) + " by asked()", run.call("asked"), due);
    }

    void tellsRatio(long upper, long lower, String name, int... numbers) {
        answers(1, name, numbers);
        Check.due(Run.told(name, numbers) + " by upper()", run.call("upper"), upper);
        Check.due(Run.told(name, numbers) + " by lower()", run.call("lower"), lower);
    }

    /** That a call is refused, and that nothing comes of it, now or later. */
    void refuses(int refusal, String name, int... numbers) {
        Run untouched = run.twin();
        Run refused = run.twin();
        String told = Run.told(name, numbers);
        Check.due(told, refused.call(name, numbers), refusal);
        if (refusal != FINDING) {
            Check.that(told + " leaves finding(), findings()", refused.findings().equals(untouched.findings()));
        }
        Check.that(told + " changes nothing", refused.future().equals(untouched.future()));
        run.call(name, numbers);
    }

    /** That a call is refused by a finding, which is told and counted, and that nothing else comes of it. */
    void finds(int finding, String name, int... numbers) {
        List<Long> due = run.twin().findings();
        due.set(0, (long) finding);
        due.set(finding, due.get(finding) + 1);
        refuses(FINDING, name, numbers);
        Check.that(Run.told(name, numbers) + " finds " + finding + ", " + run.twin().findings(), run.twin().findings().equals(due));
    }

    // ---- what is there

    void write(int t, String signs) {
        call("text", t, signs.length());
        for (int i = 0; i < signs.length(); i++) {
            if (signs.charAt(i) != ' ') {
                call("put", t, i, signs.charAt(i));
            }
        }
    }

    void line(String signs) {
        write(0, signs);
        Check.that("a line by '" + signs + "'", call("line", 0) >= 1);
    }

    void row(int r, int... places) {
        call("row", r, places.length);
        for (int i = 0; i < places.length; i++) {
            if (places[i] != 0) {
                call("lay", r, i, places[i]);
            }
        }
    }

    /** That a row is there with these places, no less and no more. */
    void holds(int r, int... places) {
        for (int i = 0; i < places.length; i++) {
            tells(places[i], "at", r, i);
        }
        finds(BEYOND, "at", r, places.length);
    }

    /** That people stand so, the first one at the left. */
    void stand(String people) {
        for (int place = 0; place < people.length(); place++) {
            answers(people.charAt(place) - '0', "who", place);
        }
        answers(people.length(), "count", 0);
    }

    /** Tickets up to this number: the first two people change places again and again, so that none would fall. */
    void ticketsUpTo(int number) {
        for (int k = call("count", 2); k < number; k++) {
            answers(k, "ticket", call("who", 0), 1);
        }
    }

    /** Deeds up to this number, by loaves that change and change again. */
    void deedsUpTo(int number) {
        while (call("count", 3) < number) {
            int loaves = call("count", 1);
            answers(loaves, "loaves", loaves == 1 ? 2 : 1);
        }
    }
}
