import java.util.Random;

/** Runs of chance calls, at most 512 each on a new object, beside the model: every answer and all that is told. */
public final class ModelTest {
    private static final int RUNS = 1500;
    private static final int CALLS = 160;
    private static final String[] TEXTS = {
        "q06 p3s9c5u2g4o9", "  q20p9", "q00o1 o1  o1", "q03 g1 g1 g1 s1 u9 o9", "q12 u1u2u3u4u5u6  ", "q1", "q21p1", "q2x", "   ",
        "q05", "q05 p0", "q05 p", "q05pp1", "q05p1p1p1p1p1p1 p1", "q05p12", "Q05p1", "q 5p1", "q05c9c9p1p1o3", "q02s1p1g1p1c1o1",
        "q07o9p1u4s3", "q04g9u9", "q1.p1", "q05 x1", "q05p:"
    };

    private final Random random;
    private final QueuePlaces real = new QueuePlaces();
    private final Model model = new Model();

    private ModelTest(int seed) {
        random = new Random(seed);
    }

    public static void main(String[] args) {
        for (int run = 0; run < RUNS && Check.allRight(); run++) {
            ModelTest test = new ModelTest(run);
            for (int call = 0; call < CALLS && Check.allRight(); call++) {
                Check.at("seed " + run + " call " + call);
                test.call();
                test.look();
            }
        }
        Check.end("ModelTest");
    }

    /** Mostly 0 .. n - 1, now and then beside it, seldom far away. */
    private int near(int n) {
        int by = random.nextInt(60);
        if (by == 0) return random.nextBoolean() ? Integer.MIN_VALUE : Integer.MAX_VALUE;
        if (by == 1) return -1 - random.nextInt(2);
        if (by == 2) return n + random.nextInt(2);
        return random.nextInt(Math.max(n, 1));
    }

    private int person() {
        return near(model.people);
    }

    private void look() {
        Check.due("asked()", real.asked(), model.asked);
        Check.due("upper()", real.upper(), model.upper);
        Check.due("lower()", real.lower(), model.lower);
        Check.due("finding()", real.finding(), model.finding);
        for (int f = 0; f <= 6; f++) Check.due("findings(" + f + ")", real.findings(f), model.findings(f));
        Check.due("digest()", real.digest(), model.digest());
    }

    private void call() {
        int by = random.nextInt(model.people == 0 ? 12 : 60);
        if (by < 3) {
            write();
        } else if (by < 12) {
            shelves(by - 3);
        } else if (by < 34) {
            deeds(by % 11);
        } else if (by < 48) {
            asides(by - 34);
        } else {
            orders(by - 48);
        }
    }

    private void write() {
        String s = TEXTS[random.nextInt(model.people == 0 ? 5 : TEXTS.length)];
        if (random.nextInt(2) == 0) s = anyLine();
        int t = random.nextInt(4);
        Check.due("text", real.text(t, s.length()), model.text(t, s.length()));
        for (int i = 0; i < s.length(); i++) Check.due("put", real.put(t, i, s.charAt(i)), model.put(t, i, s.charAt(i)));
        Check.due("fault " + s, real.fault(t), model.fault(t));
        if (model.people == 0 || random.nextInt(4) == 0) Check.due("line " + s, real.line(t), model.line(t));
    }

    private String anyLine() {
        StringBuilder s = new StringBuilder(blanks() + "q" + (char) ('0' + random.nextInt(2)) + (char) ('0' + random.nextInt(10)));
        int people = random.nextInt(8) == 0 ? random.nextInt(9) : 3 + random.nextInt(4);
        for (int i = 0; i < people; i++) {
            s.append(blanks()).append(Model.KINDS.charAt(random.nextInt(6))).append(1 + random.nextInt(9));
        }
        s.append(blanks());
        if (random.nextInt(6) == 0 && s.length() > 0) {
            s.setCharAt(random.nextInt(s.length()), " q0129pscugoxP/:".charAt(random.nextInt(16)));
        }
        return s.toString();
    }

    private String blanks() {
        return " ".repeat(Math.max(0, random.nextInt(6) - 3));
    }

    private void shelves(int by) {
        int r = near(6);
        int t = near(4);
        int i = near(8);
        int v = random.nextInt(3) == 0 ? random.nextInt() : random.nextInt(10);
        switch (by) {
            case 0: {
                int n = random.nextInt(8) == 0 ? near(41) : near(9);
                Check.due("row " + r + " " + n, real.row(r, n), model.row(r, n));
                break;
            }
            case 1: Check.due("lay", real.lay(r, i, v), model.lay(r, i, v)); break;
            case 2: Check.due("at", real.at(r, i), model.at(r, i)); break;
            case 3: if (random.nextInt(3) == 0) Check.due("tear", real.tear(r), model.tear(r)); break;
            case 4: {
                int to = random.nextInt(3) == 0 ? r : near(6);
                int j = near(8);
                int n = near(5);
                Check.due("copy", real.copy(r, i, to, j, n), model.copy(r, i, to, j, n));
                break;
            }
            case 5: Check.due("mean", real.mean(r), model.mean(r)); break;
            case 6: {
                int n = random.nextInt(3) == 0 ? near(61) : near(9);
                Check.due("text", real.text(t, n), model.text(t, n));
                break;
            }
            case 7: Check.due("put", real.put(t, i, v), model.put(t, i, v)); break;
            default: {
                Check.due("fault", real.fault(t), model.fault(t));
                if (random.nextInt(4) == 0) Check.due("line", real.line(t), model.line(t));
                break;
            }
        }
    }

    private void deeds(int by) {
        int k = near(3);
        switch (by) {
            case 0: case 1: case 2: case 3: {
                int i = person();
                int place = person();
                Check.due("ticket", real.ticket(i, place), model.ticket(i, place));
                break;
            }
            case 4: {
                int b = near(model.now().tickets.size());
                Check.due("back", real.back(b), model.back(b));
                break;
            }
            case 5: case 6: {
                int n = near(21);
                Check.due("loaves", real.loaves(n), model.loaves(n));
                break;
            }
            case 7: {
                int n = random.nextInt(6) == 0 ? near(model.deeds() + 1) : near(41);
                Check.due("undo", real.undo(n), model.undo(n));
                break;
            }
            case 8: Check.due("keep", real.keep(k), model.keep(k)); break;
            case 9: Check.due("on", real.on(k), model.on(k)); break;
            default: {
                int n = random.nextInt(4) == 0 ? near(21) : 1 + near(5);
                int seed = random.nextInt(9) == 0 ? random.nextInt() : 1 + random.nextInt(2147483646);
                Check.due("lots " + n + " " + seed, real.lots(n, seed), model.lots(n, seed));
                break;
            }
        }
    }

    private void asides(int by) {
        int i = person();
        int place = person();
        int k = near(model.now().tickets.size());
        int what = near(12);
        int v = near(random.nextInt(2) == 0 ? 6 : 21);
        int p = near(13);
        switch (by) {
            case 0: Check.due("one", real.one(i, what % 9), model.one(i, what % 9)); break;
            case 1: Check.due("mark", real.mark(i, what % 8), model.mark(i, what % 8)); break;
            case 2: Check.due("who", real.who(place), model.who(place)); break;
            case 3: Check.due("sold", real.sold(k, what % 3), model.sold(k, what % 3)); break;
            case 4: Check.due("wants", real.wants(i, place), model.wants(i, place)); break;
            case 5: Check.due("gets", real.gets(i, place), model.gets(i, place)); break;
            case 6: Check.due("best", real.best(i), model.best(i)); break;
            case 7: Check.due("falls", real.falls(k), model.falls(k)); break;
            case 8: Check.due("sets " + v, real.sets(v), model.sets(v)); break;
            case 9: Check.due("sure " + v, real.sure(v), model.sure(v)); break;
            case 10: Check.due("odds", real.odds(i, p), model.odds(i, p)); break;
            case 11: Check.due("mid", real.mid(p), model.mid(p)); break;
            default: Check.due("count", real.count(what), model.count(what)); break;
        }
    }

    private void orders(int by) {
        int r = near(6);
        int i = person();
        int place = person();
        int c = person();
        int n = near(3);
        if (by > 3 && random.nextInt(3) > 0 && r >= 0 && r < 6) {
            pairs(r);
        }
        switch (by) {
            case 0: case 1: Check.due("wish", real.wish(i, place, c, r), model.wish(i, place, c, r)); break;
            case 2: case 3: Check.due("duel", real.duel(i, place, n), model.duel(i, place, n)); break;
            case 4: case 5: case 6: Check.due("lines", real.lines(r), model.lines(r)); break;
            case 7: case 8: Check.due("can", real.can(r, place), model.can(r, place)); break;
            default: Check.due("next", real.next(r), model.next(r)); break;
        }
    }

    private void pairs(int r) {
        int n = random.nextInt(20) == 0 ? random.nextInt(20) : 2 * random.nextInt(4);
        Check.due("row", real.row(r, n), model.row(r, n));
        for (int k = 0; k < n; k++) {
            int v = k % 2 == 0 ? person() : random.nextInt(40) == 0 ? 8 + random.nextInt(3) : random.nextInt(3);
            Check.due("lay", real.lay(r, k, v), model.lay(r, k, v));
        }
    }
}
