/** Each promise of the document by hand: ordinary inputs, edges that it names, wrong inputs. */
public final class PromisesTest {
    private static final int BAD = -1, FULL = -2, FINDING = -3, STATE = -4, NONE = -9;
    private static final int NOTHING = 1, BEYOND = 2, UNLIKE = 3, NOUGHT = 4, SIZE = 5;
    private static final int LEAST = Integer.MIN_VALUE, MOST = Integer.MAX_VALUE;
    private static final String SIX = "q06 p3s9c5u2g4o9";

    private QueuePlaces x;

    public static void main(String[] args) {
        new PromisesTest().all();
        Check.end("PromisesTest");
    }

    private void all() {
        promise1(); promise2(); promise3(); promise4(); promise5(); promise6(); promise7();
        promise8(); promise9(); promise10(); promise11(); promise12(); promise13(); promise14();
        promise15(); promise16(); promise17(); promise18(); promise19(); promise20(); promise21();
        promise22(); promise23(); promise24(); promise25(); promise26(); promise27(); promise28();
        promise29(); promise30(); promise31(); promise32(); promise33(); promise34(); promise35();
        promise36(); promise37and38(); promise39(); promise40and41(); promise42();
    }

    // ---- helpers

    private void fresh(String promise) {
        Check.at(promise);
        x = new QueuePlaces();
    }

    private void fresh(String promise, String line) {
        fresh(promise);
        write(0, line);
        Check.that("line " + line, x.line(0) >= 1);
    }

    private void write(int t, String s) {
        x.text(t, s.length());
        for (int i = 0; i < s.length(); i++) {
            x.put(t, i, s.charAt(i));
        }
    }

    private void row(int r, int... places) {
        x.row(r, places.length);
        for (int i = 0; i < places.length; i++) {
            x.lay(r, i, places[i]);
        }
    }

    private void found(String call, int answer, int finding) {
        Check.due(call, answer, FINDING);
        Check.due(call + " finding()", x.finding(), finding);
    }

    private void told(String call, int answer, int told) {
        Check.due(call, answer, 1);
        Check.due(call + " asked()", x.asked(), told);
    }

    private void ratio(String call, int answer, long upper, long lower) {
        Check.due(call, answer, 1);
        Check.due(call + " upper()", x.upper(), upper);
        Check.due(call + " lower()", x.lower(), lower);
    }

    private void stand(String places) {
        for (int place = 0; place < places.length(); place++) {
            Check.due("who(" + place + ")", x.who(place), places.charAt(place) - '0');
        }
        Check.due("who(behind all)", x.who(places.length()), BAD);
    }

    private void holds(int r, int... places) {
        for (int i = 0; i < places.length; i++) {
            told("at(" + r + ", " + i + ")", x.at(r, i), places[i]);
        }
        found("at(" + r + ", end)", x.at(r, places.length), BEYOND);
    }

    // ---- 1 rows, texts, lines

    private void promise1() {
        fresh("1");
        Check.due("BAD", QueuePlaces.BAD, -1);
        Check.due("FULL", QueuePlaces.FULL, -2);
        Check.due("FINDING", QueuePlaces.FINDING, -3);
        Check.due("STATE", QueuePlaces.STATE, -4);
        Check.due("SPENT", QueuePlaces.SPENT, -6);
        Check.due("NONE", QueuePlaces.NONE, -9);
        for (int what = 0; what <= 11; what++) {
            Check.due("count(" + what + ")", x.count(what), 0);
        }
        for (int r = 0; r < 6; r++) {
            found("at", x.at(r, 0), NOTHING);
        }
        for (int t = 0; t < 4; t++) {
            found("fault", x.fault(t), NOTHING);
        }
        Check.due("who(0)", x.who(0), BAD);
        Check.due("another's findings", new QueuePlaces().findings(NOTHING), 0);
    }

    private void promise2() {
        fresh("2");
        Check.due("row(0, 3)", x.row(0, 3), 3);
        holds(0, 0, 0, 0);
        Check.due("row(5, 40)", x.row(5, 40), 40);
        told("at(5, 39)", x.at(5, 39), 0);
        x.lay(0, 1, 7);
        Check.due("row(0, 2)", x.row(0, 2), 2);
        holds(0, 0, 0);
        Check.due("row(0, 0)", x.row(0, 0), 0);
        holds(0);
        Check.due("row(-1, 1)", x.row(-1, 1), BAD);
        Check.due("row(6, 1)", x.row(6, 1), BAD);
        Check.due("row(6, -1)", x.row(6, -1), BAD);
        Check.due("row(0, 41)", x.row(0, 41), BAD);
        Check.due("row(0, most)", x.row(0, MOST), BAD);
        found("row(1, -1)", x.row(1, -1), SIZE);
        found("row(1, least)", x.row(1, LEAST), SIZE);
        Check.due("count(9)", x.count(9), 2);
    }

    private void promise3() {
        fresh("3");
        found("lay on nothing", x.lay(2, 0, 5), NOTHING);
        x.row(2, 2);
        told("lay(2, 1, most)", x.lay(2, 1, MOST), 0);
        told("lay(2, 1, least)", x.lay(2, 1, LEAST), MOST);
        holds(2, 0, LEAST);
        found("lay(2, 2, 1)", x.lay(2, 2, 1), BEYOND);
        found("lay(2, -1, 1)", x.lay(2, -1, 1), BEYOND);
        Check.due("lay(6, -1, 1)", x.lay(6, -1, 1), BAD);
        Check.due("lay(-1, 0, 1)", x.lay(-1, 0, 1), BAD);
        Check.due("asked() stays", x.asked(), LEAST);
    }

    private void promise4() {
        fresh("4");
        found("at on nothing", x.at(3, -1), NOTHING);
        row(3, 4, -5);
        told("at(3, 0)", x.at(3, 0), 4);
        told("at(3, 1)", x.at(3, 1), -5);
        found("at(3, 2)", x.at(3, 2), BEYOND);
        found("at(3, least)", x.at(3, LEAST), BEYOND);
        Check.due("at(6, 0)", x.at(6, 0), BAD);
        Check.due("at(least, 0)", x.at(LEAST, 0), BAD);
    }

    private void promise5() {
        fresh("5");
        found("tear(1)", x.tear(1), NOTHING);
        x.row(1, 0);
        x.row(2, 1);
        Check.due("tear(1)", x.tear(1), 1);
        found("tear(1) again", x.tear(1), NOTHING);
        found("at(1, 0)", x.at(1, 0), NOTHING);
        Check.due("count(9)", x.count(9), 1);
        Check.due("tear(6)", x.tear(6), BAD);
        Check.due("tear(-1)", x.tear(-1), BAD);
    }

    private void promise6() {
        fresh("6");
        row(0, 1, 2, 3, 4, 5);
        row(1, 9, 9, 9);
        Check.due("copy(0, 3, 1, 1, 2)", x.copy(0, 3, 1, 1, 2), 1);
        holds(1, 9, 4, 5);
        Check.due("copy upwards in itself", x.copy(0, 0, 0, 1, 4), 1);
        holds(0, 1, 1, 2, 3, 4);
        Check.due("copy downwards in itself", x.copy(0, 1, 0, 0, 4), 1);
        holds(0, 1, 2, 3, 4, 4);
        Check.due("copy(0, 5, 1, 3, 0)", x.copy(0, 5, 1, 3, 0), 1);
        found("copy(0, 6, 1, 0, 0)", x.copy(0, 6, 1, 0, 0), BEYOND);
        found("copy(0, 0, 1, 4, 0)", x.copy(0, 0, 1, 4, 0), BEYOND);
        found("copy(0, -1, 1, 0, 0)", x.copy(0, -1, 1, 0, 0), BEYOND);
        found("copy(0, 0, 1, -1, 0)", x.copy(0, 0, 1, -1, 0), BEYOND);
        found("copy(0, 3, 1, 0, 3)", x.copy(0, 3, 1, 0, 3), BEYOND);
        found("copy(0, 0, 1, 2, 2)", x.copy(0, 0, 1, 2, 2), BEYOND);
        found("copy(0, most, 1, 0, most)", x.copy(0, MOST, 1, 0, MOST), BEYOND);
        found("copy(0, 1, 0, 1, most)", x.copy(0, 1, 0, 1, MOST), BEYOND);
        found("copy to nothing", x.copy(0, -1, 2, 0, 1), NOTHING);
        found("copy from nothing", x.copy(2, -1, 0, 0, 1), NOTHING);
        found("copy to nothing, size", x.copy(0, 0, 2, 0, -1), SIZE);
        found("copy beyond, size", x.copy(0, 9, 1, 0, LEAST), SIZE);
        Check.due("copy(6, 0, 0, 0, -1)", x.copy(6, 0, 0, 0, -1), BAD);
        Check.due("copy(0, 0, -1, 0, 0)", x.copy(0, 0, -1, 0, 0), BAD);
        holds(0, 1, 2, 3, 4, 4);
        holds(1, 9, 4, 5);
    }

    private void promise7() {
        fresh("7");
        row(0, 1, 2, 4);
        told("mean(0)", x.mean(0), 2);
        row(0, -1, -2, -2);
        told("mean(0), cut", x.mean(0), -1);
        row(0, MOST, MOST, MOST);
        told("mean(0), great", x.mean(0), MOST);
        x.row(0, 0);
        found("mean of none", x.mean(0), NOUGHT);
        found("mean(1)", x.mean(1), NOTHING);
        Check.due("mean(6)", x.mean(6), BAD);
        Check.due("mean(-1)", x.mean(-1), BAD);
        Check.due("asked() stays", x.asked(), MOST);
    }

    private void promise8() {
        fresh("8");
        Check.due("text(0, 60)", x.text(0, 60), 60);
        Check.due("put(0, 59, 1)", x.put(0, 59, 1), 1032);
        Check.due("text(3, 0)", x.text(3, 0), 0);
        Check.due("text(0, 61)", x.text(0, 61), BAD);
        Check.due("text(4, 1)", x.text(4, 1), BAD);
        Check.due("text(-1, -1)", x.text(-1, -1), BAD);
        found("text(1, -1)", x.text(1, -1), SIZE);
        Check.due("count(10)", x.count(10), 2);
        x.text(0, 2);
        Check.due("put: a blank anew", x.put(0, 1, 9), 1032);
        found("put beyond", x.put(0, 2, 9), BEYOND);
    }

    private void promise9() {
        fresh("9");
        found("put on nothing", x.put(0, -1, 1), NOTHING);
        x.text(0, 2);
        Check.due("put(0, 0, 200)", x.put(0, 0, 200), 1032);
        Check.due("put(0, 0, -129)", x.put(0, 0, -129), 944);
        Check.due("put(0, 0, 384)", x.put(0, 0, 384), 1127);
        Check.due("put(0, 0, 0)", x.put(0, 0, 0), 872);
        Check.due("put(0, 0, most)", x.put(0, 0, MOST), 1000);
        Check.due("put(0, 0, 1)", x.put(0, 0, 1), 999);
        found("put(0, 2, 1)", x.put(0, 2, 1), BEYOND);
        found("put(0, -1, 1)", x.put(0, -1, 1), BEYOND);
        Check.due("put(4, 0, 1)", x.put(4, 0, 1), BAD);
        Check.due("put(-1, 0, 1)", x.put(-1, 0, 1), BAD);
        Check.due("asked()", x.asked(), 0);
    }

    private void faulty(String line, int fault) {
        write(0, line);
        Check.due("fault of '" + line + "'", x.fault(0), fault);
    }

    private void promise10() {
        fresh("10");
        found("fault(0)", x.fault(0), NOTHING);
        Check.due("fault(4)", x.fault(4), BAD);
        Check.due("fault(-1)", x.fault(-1), BAD);
        faulty(SIX, NONE);
        faulty("q00o1", NONE);
        faulty("   q20   p1 s2c3 u4g5   o9   ", NONE);
        faulty("", 0);
        faulty("   ", 3);
        faulty("x05p1", 0);
        faulty("  p1", 2);
        faulty("Q05p1", 0);
        faulty("q", 1);
        faulty("q1", 2);
        faulty("q 05p1", 1);
        faulty("q0 5p1", 2);
        faulty("qx5p1", 1);
        faulty("q3xp1", 2);
        faulty("q3", 2);
        faulty("q21p1", 1);
        faulty(" q99", 2);
        faulty("q20", 3);
        faulty("q05  ", 5);
        faulty("q055p1", 3);
        faulty("q05P1", 3);
        faulty("q05p", 4);
        faulty("q05p0", 4);
        faulty("q05pp1", 4);
        faulty("q05p 1", 4);
        faulty("q05p12", 5);
        faulty("q05p1 q05", 6);
        faulty("q05p1p2p3p4p5p6", NONE);
        faulty("q05p1p2p3p4p5p6 p", 16);
        faulty("q05p1p2p3p4p5p6p7", 15);
        faulty("q05p1p2p3p4p5p", 14);
        faulty("q05p1p2p3p4p5p6  ", NONE);
        write(0, "q05p:");
        Check.due("a sign behind the figures", x.fault(0), 4);
        write(0, "q/5p1");
        Check.due("a sign ahead of the figures", x.fault(0), 1);
        x.text(0, 60);
        Check.due("60 blanks", x.fault(0), 60);
    }

    private void promise11() {
        fresh("11");
        found("line(0)", x.line(0), NOTHING);
        Check.due("line(4)", x.line(4), BAD);
        Check.due("line(-1)", x.line(-1), BAD);
        write(3, " q07 s4 o2");
        Check.due("line(3)", x.line(3), 2);
        stand("01");
        Check.due("count(1)", x.count(1), 7);
        x.ticket(0, 1);
        x.loaves(3);
        x.keep(1);
        write(1, "q07 s4 o");
        Check.due("line of a fault", x.line(1), STATE);
        stand("10");
        Check.due("count(3)", x.count(3), 2);
        Check.due("count(11)", x.count(11), 1);
        write(1, "q09 c1c2c3");
        Check.due("line anew", x.line(1), 3);
        stand("012");
        Check.due("count(1) anew", x.count(1), 9);
        Check.due("count(2) anew", x.count(2), 0);
        Check.due("count(3) anew", x.count(3), 0);
        Check.due("count(11) anew", x.count(11), 0);
        found("on(1)", x.on(1), NOTHING);
        told("one(2, 1)", x.one(2, 1), 3);
    }

    private void promise12() {
        fresh("12", SIX);
        int[][] due = {
            {0, 3, 0, 1, 1, 2, 2}, {1, 9, 1, 1, 1, 0, 5}, {2, 5, 2, 0, 0, 3, 10},
            {3, 2, 3, 2, 0, 4, 20}, {4, 4, 4, 3, 3, 1, 40}, {5, 9, 5, 1, 1, 5, 16}};
        for (int i = 0; i < 6; i++) {
            for (int what = 0; what <= 6; what++) {
                told("one(" + i + ", " + what + ")", x.one(i, what), due[i][what]);
            }
        }
        Check.due("one(6, 0)", x.one(6, 0), BAD);
        Check.due("one(-1, 0)", x.one(-1, 0), BAD);
        Check.due("one(0, 7)", x.one(0, 7), BAD);
        Check.due("one(0, -1)", x.one(0, -1), BAD);
        x.ticket(5, 0);
        told("an orphan first", x.one(5, 3), 0);
        told("its place", x.one(5, 2), 0);
        told("behind two soldiers", x.one(5, 5), 2);
        told("it has met the person", x.one(5, 6), 1);
        fresh("12, patience", "q20p1p1p1s1s2s1");
        told("one of patience 1 behind none", x.one(3, 4), 1);
        told("behind two, of patience 1", x.one(5, 4), 0);
        told("behind five", x.one(2, 5), 5);
        fresh("12, fewer left", "q04g9g9");
        told("a general gets what is left", x.one(1, 4), 1);
        told("and wants three", x.one(1, 3), 3);
    }

    private void promise13() {
        fresh("13", "q06p9u9c9s9g9o9");
        Check.due("mark(3, 1)", x.mark(3, 1), 3);
        Check.due("mark(4, 1)", x.mark(4, 1), 3);
        Check.due("mark(2, 2)", x.mark(2, 2), 3);
        Check.due("mark(5, 2)", x.mark(5, 2), 0);
        Check.due("mark(1, 3)", x.mark(1, 3), 1);
        Check.due("mark(4, 4)", x.mark(4, 4), 0);
        Check.due("mark(5, 5)", x.mark(5, 5), 0);
        x.ticket(5, 1);
        Check.due("an orphan's places", x.mark(5, 5), 4);
        Check.due("who stands behind the orphan", x.mark(5, 2), 4);
        x.loaves(2);
        Check.due("a general wants yet", x.mark(4, 4), 2);
        Check.due("none left for an umbrella", x.mark(1, 3), 0);
        found("a soldier is no general", x.mark(3, 4), UNLIKE);
        found("a child is no orphan", x.mark(2, 5), UNLIKE);
        found("an umbrella is no soldier", x.mark(1, 1), UNLIKE);
        found("a person is no child", x.mark(0, 2), UNLIKE);
        found("a general is no umbrella", x.mark(4, 3), UNLIKE);
        Check.due("mark(0, 0)", x.mark(0, 0), BAD);
        Check.due("mark(0, 6)", x.mark(0, 6), BAD);
        Check.due("mark(0, -1)", x.mark(0, -1), BAD);
        Check.due("mark(6, 1)", x.mark(6, 1), BAD);
        Check.due("mark(-1, 1)", x.mark(-1, 1), BAD);
        fresh("13, turned away", "q09s1s1u1s1g1");
        Check.due("a general turned away", x.mark(4, 4), 3);
        Check.due("left as its turn comes, though turned away", x.mark(2, 3), 7);
        Check.due("asked()", x.asked(), 0);
    }

    // ---- 2 deeds

    private void promise14() {
        fresh("14", SIX);
        Check.due("ticket(3, 0)", x.ticket(3, 0), 0);
        stand("301245");
        Check.due("ticket(3, 5)", x.ticket(3, 5), 1);
        stand("012453");
        Check.due("ticket(0, 3)", x.ticket(0, 3), 2);
        stand("124053");
        Check.due("one stands there", x.ticket(0, 3), STATE);
        Check.due("ticket(6, 0)", x.ticket(6, 0), BAD);
        Check.due("ticket(0, 6)", x.ticket(0, 6), BAD);
        Check.due("ticket(-1, 0)", x.ticket(-1, 0), BAD);
        Check.due("ticket(0, -1)", x.ticket(0, -1), BAD);
        for (int k = 3; k < 12; k++) {
            Check.due("ticket " + k, x.ticket(1, k % 2 == 1 ? 5 : 0), k);
        }
        Check.due("a 13th", x.ticket(2, 5), STATE);
        Check.due("count(3)", x.count(3), 12);
        x.back(11);
        fillDeeds();
        Check.due("41st deed", x.ticket(2, 5), FULL);
        Check.due("41st deed, nobody", x.ticket(6, 5), BAD);
        Check.due("41st deed, where it stands", x.ticket(2, placeOf(2)), STATE);
        fresh("14, nobody");
        Check.due("ticket(0, 0)", x.ticket(0, 0), BAD);
    }

    private int placeOf(int i) {
        x.one(i, 2);
        return x.asked();
    }

    private void fillDeeds() {
        for (int d = x.count(3); d < 40; d++) {
            Check.that("deed " + d, x.loaves(x.count(1) == 1 ? 2 : 1) >= 0);
        }
    }

    private void promise15() {
        fresh("15", "q05p1p2p3");
        Check.due("no ticket yet", x.back(0), BAD);
        x.ticket(0, 2);
        x.ticket(1, 2);
        x.ticket(2, 2);
        stand("012");
        Check.due("back(0)", x.back(0), 0);
        stand("012");
        // 0 2 1 by (1 to 2), then 0 1 2 by (2 to 2)
        Check.due("count(2)", x.count(2), 2);
        Check.due("sold(0, 0)", x.sold(0, 0), 1);
        Check.due("back(0), the other falls", x.back(0), 1);
        Check.due("count(2) then", x.count(2), 0);
        Check.due("count(3)", x.count(3), 5);
        stand("012");
        // one falls, and the one behind it does not
        x.ticket(0, 1);
        x.ticket(1, 1);
        x.ticket(2, 0);
        stand("201");
        Check.due("the middle one falls", x.back(0), 1);
        stand("201");
        Check.due("one stays", x.count(2), 1);
        Check.due("it is the last one", x.sold(0, 0), 2);
        x.ticket(1, 0);
        Check.due("back(1) of the last one", x.back(1), 0);
        stand("201");
        Check.due("back(1)", x.back(1), BAD);
        Check.due("back(-1)", x.back(-1), BAD);
        fillDeeds();
        Check.due("41st deed", x.back(0), FULL);
        Check.due("41st deed, no such ticket", x.back(5), BAD);
        stand("201");
    }

    private void promise16() {
        fresh("16", "q05g9p9");
        Check.due("loaves(2)", x.loaves(2), 5);
        told("what the general gets", x.one(0, 4), 2);
        Check.due("it is so", x.loaves(2), STATE);
        Check.due("loaves(20)", x.loaves(20), 2);
        Check.due("loaves(0)", x.loaves(0), 20);
        Check.due("loaves(21)", x.loaves(21), BAD);
        Check.due("loaves(-1)", x.loaves(-1), BAD);
        Check.due("count(3)", x.count(3), 3);
        fillDeeds();
        Check.due("41st deed", x.loaves(9), FULL);
        Check.due("41st deed, it is so", x.loaves(x.count(1)), STATE);
        Check.due("41st deed, too many", x.loaves(21), BAD);
        fresh("16, nobody");
        Check.due("loaves(5)", x.loaves(5), STATE);
        Check.due("loaves(0)", x.loaves(0), STATE);
        Check.due("loaves(21)", x.loaves(21), BAD);
    }

    private void promise17() {
        fresh("17", "q05p1p2p3");
        x.ticket(0, 1);
        x.ticket(1, 1);
        x.loaves(7);
        x.back(0);
        Check.due("the second one has fallen", x.count(2), 0);
        Check.due("undo(5)", x.undo(5), BAD);
        Check.due("undo(-1)", x.undo(-1), BAD);
        Check.due("undo(4)", x.undo(4), 0);
        Check.due("undo(3)", x.undo(3), 1);
        Check.due("both tickets again", x.count(2), 2);
        Check.due("seven loaves yet", x.count(1), 7);
        stand("012");
        Check.due("undo(1)", x.undo(1), 2);
        stand("102");
        Check.due("five loaves again", x.count(1), 5);
        Check.due("count(3)", x.count(3), 1);
        Check.due("ticket behind it", x.ticket(2, 0), 1);
        Check.due("undo(0)", x.undo(0), 2);
        stand("012");
        Check.due("count(2)", x.count(2), 0);
        fresh("17, nobody");
        Check.due("undo(0)", x.undo(0), 0);
        Check.due("undo(1)", x.undo(1), BAD);
    }

    private void promise18() {
        fresh("18");
        Check.due("nobody", x.keep(0), STATE);
        Check.due("nobody, nowhere", x.keep(3), BAD);
        fresh("18", "q05p1p2p3");
        Check.due("keep(0)", x.keep(0), 0);
        x.ticket(2, 0);
        Check.due("keep(2)", x.keep(2), 1);
        Check.due("keep(3)", x.keep(3), BAD);
        Check.due("keep(-1)", x.keep(-1), BAD);
        Check.due("count(11)", x.count(11), 2);
        x.loaves(1);
        Check.due("keep(0) anew", x.keep(0), 2);
        Check.due("count(11) then", x.count(11), 2);
        Check.due("on(0)", x.on(0), 2);
        stand("201");
    }

    private void promise19() {
        fresh("19", "q05p1p2p3");
        found("on(0)", x.on(0), NOTHING);
        Check.due("on(3)", x.on(3), BAD);
        Check.due("on(-1)", x.on(-1), BAD);
        x.ticket(2, 0);
        x.loaves(9);
        x.keep(1);
        x.undo(0);
        x.ticket(0, 1);
        Check.due("on(1)", x.on(1), 2);
        stand("201");
        Check.due("count(1)", x.count(1), 9);
        Check.due("count(2)", x.count(2), 1);
        Check.due("sold(0, 0)", x.sold(0, 0), 2);
        x.undo(1);
        Check.due("its deeds can be undone", x.count(1), 5);
        Check.due("on(1) again", x.on(1), 2);
        Check.due("count(1) again", x.count(1), 9);
        Check.due("it stays kept", x.count(11), 1);
    }

    // ---- 3 who stood where

    private void promise20() {
        fresh("20");
        Check.due("who(0), nobody", x.who(0), BAD);
        fresh("20", "q05p1p2p3");
        x.ticket(0, 2);
        stand("120");
        Check.due("who(-1)", x.who(-1), BAD);
        Check.due("who(most)", x.who(MOST), BAD);
    }

    private void promise21() {
        fresh("21", "q05p1p2p3");
        Check.due("sold(0, 0), none", x.sold(0, 0), BAD);
        x.ticket(0, 2);
        x.ticket(2, 1);
        Check.due("two stands there already", x.count(2), 1);
        x.ticket(2, 0);
        Check.due("sold(0, 0)", x.sold(0, 0), 0);
        Check.due("sold(0, 1)", x.sold(0, 1), 2);
        Check.due("sold(1, 0)", x.sold(1, 0), 2);
        Check.due("sold(1, 1)", x.sold(1, 1), 0);
        Check.due("sold(2, 0)", x.sold(2, 0), BAD);
        Check.due("sold(-1, 0)", x.sold(-1, 0), BAD);
        Check.due("sold(0, 2)", x.sold(0, 2), BAD);
        Check.due("sold(0, -1)", x.sold(0, -1), BAD);
    }

    private void promise22() {
        fresh("22", SIX);
        int[] ahead = {1, 1, 0, 2, 3, 0};
        int[] last = {1, 1, 0, 2, 3, 1};
        for (int i = 0; i < 6; i++) {
            Check.due("wants(" + i + ", 0)", x.wants(i, 0), ahead[i]);
            Check.due("wants(" + i + ", 4)", x.wants(i, 4), ahead[i]);
            Check.due("wants(" + i + ", 5)", x.wants(i, 5), last[i]);
        }
        Check.due("wants(6, 0)", x.wants(6, 0), BAD);
        Check.due("wants(0, 6)", x.wants(0, 6), BAD);
        Check.due("wants(-1, 0)", x.wants(-1, 0), BAD);
        Check.due("wants(0, -1)", x.wants(0, -1), BAD);
        fresh("22, alone", "q05o1");
        Check.due("wants(0, 0)", x.wants(0, 0), 1);
    }

    private void promise23() {
        fresh("23", SIX);
        Check.due("gets(3, 3)", x.gets(3, 3), 0);
        Check.due("gets(3, 0)", x.gets(3, 0), 2);
        Check.due("gets(5, 5)", x.gets(5, 5), 1);
        Check.due("gets(5, 4)", x.gets(5, 4), 0);
        Check.due("gets(0, 5)", x.gets(0, 5), 0);
        stand("012345");
        Check.due("gets(6, 0)", x.gets(6, 0), BAD);
        Check.due("gets(0, 6)", x.gets(0, 6), BAD);
        Check.due("gets(-1, 0)", x.gets(-1, 0), BAD);
        Check.due("gets(0, -1)", x.gets(0, -1), BAD);
        Check.due("count(3)", x.count(3), 0);
        fresh("23, with twelve tickets", "q01p9p9");
        for (int k = 0; k < 12; k++) {
            x.ticket(0, 1 - k % 2);
        }
        Check.due("gets(1, 0)", x.gets(1, 0), 1);
        Check.due("gets(1, 1)", x.gets(1, 1), 0);
    }

    private void promise24() {
        fresh("24", "q03g9u9p9o9");
        Check.due("best(1)", x.best(1), 0);
        Check.due("none left for it", x.asked(), 0);
        x.loaves(4);
        Check.due("best(1) of four", x.best(1), 0);
        Check.due("one left for it", x.asked(), 1);
        Check.due("best(2)", x.best(2), 0);
        Check.due("best(3)", x.best(3), 0);
        Check.due("nothing for the orphan", x.asked(), 0);
        x.loaves(7);
        Check.due("best(3) of seven", x.best(3), 3);
        Check.due("one for the orphan", x.asked(), 1);
        Check.due("best(4)", x.best(4), BAD);
        Check.due("best(-1)", x.best(-1), BAD);
        Check.due("asked() stays", x.asked(), 1);
        stand("0123");
    }

    private void promise25() {
        fresh("25", "q05p1p2p3");
        Check.due("falls(0), none", x.falls(0), BAD);
        x.ticket(0, 1);
        x.ticket(1, 1);
        x.ticket(2, 0);
        Check.due("falls(0)", x.falls(0), 1);
        Check.due("falls(1)", x.falls(1), 0);
        Check.due("falls(2)", x.falls(2), 0);
        Check.due("falls(3)", x.falls(3), BAD);
        Check.due("falls(-1)", x.falls(-1), BAD);
        Check.due("nothing is given back", x.count(2), 3);
        Check.due("no deed", x.count(3), 3);
        stand("201");
        fillDeeds();
        Check.due("falls(0), 40 deeds", x.falls(0), 1);
    }

    // ---- 4 to have been

    private void promise26() {
        fresh("26", SIX);
        row(1, 7);
        Check.due("they have met, and all is well", x.wish(0, 1, 4, 1), 0);
        holds(1);
        Check.due("count(9)", x.count(9), 1);
        Check.due("wish(0, 5, 3, 1)", x.wish(0, 5, 3, 1), 2);
        holds(1, 4, 18);
        Check.due("wish(2, 4, 5, 2)", x.wish(2, 4, 5, 2), 1);
        holds(2, 19);
        stand("012345");
        Check.due("wish(0, 0, 1, 1)", x.wish(0, 0, 1, 1), BAD);
        Check.due("wish(6, 0, 1, 1)", x.wish(6, 0, 1, 1), BAD);
        Check.due("wish(0, -1, 1, 1)", x.wish(0, -1, 1, 1), BAD);
        Check.due("wish(0, 1, 6, 1)", x.wish(0, 1, 6, 1), BAD);
        Check.due("wish(0, 1, 2, 6)", x.wish(0, 1, 2, 6), BAD);
        Check.due("wish(0, 1, 2, -1)", x.wish(0, 1, 2, -1), BAD);
        x.loaves(0);
        // the orphan may not be last: it would want one
        Check.due("no loaves", x.wish(2, 4, 5, 2), 1);
        holds(2, 29);
        Check.due("no loaves for the general", x.wish(0, 1, 4, 2), NONE);
        holds(2, 29);
        Check.due("none wanted, none got", x.wish(0, 1, 2, 2), 0);
        fresh("26, never", "q03u1u1u1s1s1p1");
        // served behind both soldiers, whatever the order
        Check.due("of patience 1 behind two soldiers", x.wish(3, 5, 2, 0), NONE);
        found("no row", x.at(0, 0), NOTHING);
        fresh("26, two needed", "q20p9p9p4p3p2p9");
        Check.due("of patience 2 at place 4", x.wish(0, 5, 4, 0), 2);
        holds(0, 3, 32);
        fresh("26, three needed", "q04s2u3u3s3c1g1");
        // the general stays behind both soldiers, so that it is turned away, yet comes to the first umbrella
        Check.due("three", x.wish(5, 2, 2, 0), 3);
        holds(0, 10, 24, 42);
        fresh("26, four needed", "q04s2s1s5c3u4s5");
        // the one with the umbrella ahead of the child, and behind both that have met the other soldiers, turned away
        Check.due("four", x.wish(5, 2, 4, 0), NONE);
        x.ticket(4, 3);
        Check.due("one of four is bought", x.wish(5, 2, 4, 0), 3);
        fresh("26, beyond twelve", "q01p9p9p9");
        for (int k = 0; k < 12; k++) {
            x.ticket(0, 1 - k % 2);
        }
        Check.due("beyond twelve", x.wish(0, 2, 2, 0), 1);
        holds(0, 16);
        fresh("26, alone", "q01p9");
        Check.due("wish(0, 0, 0, 0)", x.wish(0, 0, 0, 0), BAD);
    }

    // ---- 5 by what they got

    private void promise27() {
        fresh("27");
        x.row(0, 0);
        Check.due("nobody", x.lines(0), STATE);
        Check.due("nobody, nothing", x.lines(1), STATE);
        Check.due("lines(6)", x.lines(6), BAD);
        fresh("27", "q01p9p9p9");
        found("lines(0)", x.lines(0), NOTHING);
        row(0);
        ratio("all orders", x.lines(0), 6, 1);
        row(0, 0, 1);
        ratio("0 was first", x.lines(0), 2, 1);
        row(0, 0, 0);
        ratio("0 was not first", x.lines(0), 4, 1);
        row(0, 0, 0, 1, 0);
        ratio("2 was first", x.lines(0), 2, 1);
        row(0, 0, 0, 0, 0);
        ratio("told twice", x.lines(0), 4, 1);
        row(0, 0, 0, 0, 1);
        ratio("told against itself", x.lines(0), 0, 1);
        row(0, 0, 9);
        ratio("nine", x.lines(0), 0, 1);
        row(0, 1);
        found("no pairs", x.lines(0), SIZE);
        row(0, 0, 10);
        found("ten", x.lines(0), UNLIKE);
        row(0, 0, -1);
        found("less than none", x.lines(0), UNLIKE);
        row(0, 3, 0);
        found("nobody of this number", x.lines(0), UNLIKE);
        row(0, -1, 0);
        found("a number below", x.lines(0), UNLIKE);
        row(0, 0, 0, 0, 0, 0, 0, 0, 0, 0, 0, 0, 0, 0, 0, 0, 0);
        ratio("eight pairs", x.lines(0), 4, 1);
        row(0, 9, 0, 0, 0, 0, 0, 0, 0, 0, 0, 0, 0, 0, 0, 0, 0, 0, 0);
        found("nine pairs", x.lines(0), SIZE);
        row(0, 7, 7, 7);
        found("SIZE ahead of UNLIKE", x.lines(0), SIZE);
        x.loaves(0);
        row(0, 0, 0);
        ratio("no loaves", x.lines(0), 6, 1);
        Check.due("asked() by lay() alone", x.asked(), 0);
        fresh("27, by who is there, not by tickets", "q02u9p9o9");
        row(0, 2, 0);
        // the orphan gets one where it is last and the other two leave one: never
        ratio("orphan", x.lines(0), 6, 1);
        x.loaves(4);
        ratio("orphan last gets one", x.lines(0), 4, 1);
    }

    private void promise28() {
        fresh("28", "q01p9p9p9");
        found("can(0, 0)", x.can(0, 0), NOTHING);
        row(0, 0, 0);
        Check.due("can(0, 0)", x.can(0, 0), 6);
        Check.due("can(0, 1)", x.can(0, 1), 7);
        row(0, 0, 1);
        Check.due("can(0, 0), first", x.can(0, 0), 1);
        Check.due("can(0, 2), first", x.can(0, 2), 6);
        row(0, 0, 2);
        Check.due("no order", x.can(0, 2), 0);
        Check.due("can(0, 3)", x.can(0, 3), BAD);
        Check.due("can(0, -1)", x.can(0, -1), BAD);
        Check.due("can(6, 0)", x.can(6, 0), BAD);
        Check.due("can(-1, 0)", x.can(-1, 0), BAD);
        row(0, 0);
        found("no pairs", x.can(0, 0), SIZE);
        row(0, 0, 10);
        found("ten", x.can(0, 0), UNLIKE);
        Check.due("upper() stays", x.upper(), 0);
        fresh("28, nobody");
        Check.due("can(0, 0)", x.can(0, 0), BAD);
    }

    private void promise29() {
        fresh("29");
        Check.due("nobody", x.next(0), STATE);
        Check.due("next(6)", x.next(6), BAD);
        fresh("29", "q01p9p9p9");
        found("next(0)", x.next(0), NOTHING);
        row(0);
        Check.due("next of all", x.next(0), 0);
        Check.due("four of six", x.asked(), 4);
        row(0, 0, 0);
        Check.due("next where 0 got none", x.next(0), 1);
        Check.due("two of four", x.asked(), 2);
        row(0, 2, 1);
        Check.due("all is known", x.next(0), 0);
        Check.due("two of two", x.asked(), 2);
        row(0, 2, 3);
        x.at(0, 1);
        Check.due("no order", x.next(0), NONE);
        Check.due("asked() stays", x.asked(), 3);
        row(0, 2);
        found("no pairs", x.next(0), SIZE);
        row(0, 3, 3);
        found("nobody", x.next(0), UNLIKE);
        Check.due("next(-1)", x.next(-1), BAD);
        Check.due("upper() stays", x.upper(), 0);
    }

    // ---- 6 whose wants

    private void promise30() {
        fresh("30");
        Check.due("nobody", x.sets(0), STATE);
        Check.due("sets(21)", x.sets(21), BAD);
        fresh("30", SIX);
        ratio("sets(0)", x.sets(0), 2, 1);
        Check.due("the set of none", x.asked(), 0);
        ratio("sets(1)", x.sets(1), 6, 1);
        Check.due("the first", x.asked(), 1);
        ratio("sets(8)", x.sets(8), 2, 1);
        Check.due("all but the child", x.asked(), 59);
        ratio("sets(9)", x.sets(9), 0, 1);
        Check.due("none", x.asked(), NONE);
        ratio("sets(20)", x.sets(20), 0, 1);
        x.ticket(5, 0);
        ratio("the orphan wants none now", x.sets(8), 0, 1);
        ratio("sets(7)", x.sets(7), 4, 1);
        Check.due("all that want", x.asked(), 27);
        Check.due("sets(21)", x.sets(21), BAD);
        Check.due("sets(-1)", x.sets(-1), BAD);
        Check.due("asked() stays", x.asked(), 27);
    }

    private void promise31() {
        fresh("31");
        Check.due("nobody", x.sure(0), STATE);
        Check.due("sure(-1)", x.sure(-1), BAD);
        fresh("31", SIX);
        Check.due("sure(8)", x.sure(8), 59);
        Check.due("in none", x.asked(), 0);
        Check.due("sure(1)", x.sure(1), 0);
        Check.due("umbrella, general", x.asked(), 24);
        Check.due("sure(0)", x.sure(0), 0);
        Check.due("who wants", x.asked(), 59);
        Check.due("sure(7)", x.sure(7), 24);
        Check.due("none in none", x.asked(), 0);
        x.sure(1);
        found("sure(9)", x.sure(9), NOUGHT);
        Check.due("sure(21)", x.sure(21), BAD);
        Check.due("asked() stays", x.asked(), 24);
        Check.due("upper() stays", x.upper(), 0);
    }

    // ---- 7 by turns

    private void promise32() {
        fresh("32", "q01p9p9");
        told("duel(0, 1, 0)", x.duel(0, 1, 0), 1);
        told("duel(1, 0, 0)", x.duel(1, 0, 0), -1);
        told("the second one has the last turn", x.duel(0, 1, 1), -1);
        told("duel(1, 0, 2)", x.duel(1, 0, 2), -1);
        stand("01");
        Check.due("duel(0, 0, 0)", x.duel(0, 0, 0), BAD);
        Check.due("duel(2, 0, 0)", x.duel(2, 0, 0), BAD);
        Check.due("duel(0, -1, 0)", x.duel(0, -1, 0), BAD);
        Check.due("duel(0, 1, 3)", x.duel(0, 1, 3), BAD);
        Check.due("duel(0, 1, -1)", x.duel(0, 1, -1), BAD);
        fresh("32, none is the best", "q01s9p9");
        told("a soldier ahead", x.duel(0, 1, 2), 1);
        fresh("32", SIX);
        told("duel(0, 3, 0)", x.duel(0, 3, 0), 1);
        told("duel(3, 5, 1)", x.duel(3, 5, 1), 0);
        told("duel(0, 4, 2)", x.duel(0, 4, 2), -2);
    }

    // ---- 8 chances, lots

    private void promise33() {
        fresh("33", "q01p1p9o9");
        ratio("odds(0, 0)", x.odds(0, 0), 1, 1);
        ratio("odds(1, 0)", x.odds(1, 0), 0, 1);
        ratio("the other one at home", x.odds(1, 6), 1, 4);
        ratio("an orphan alone", x.odds(2, 6), 1, 8);
        ratio("odds(0, 3)", x.odds(0, 3), 3, 4);
        ratio("all at home", x.odds(0, 12), 0, 1);
        Check.due("odds(3, 0)", x.odds(3, 0), BAD);
        Check.due("odds(-1, 0)", x.odds(-1, 0), BAD);
        Check.due("odds(0, 13)", x.odds(0, 13), BAD);
        Check.due("odds(0, -1)", x.odds(0, -1), BAD);
        fresh("33, an orphan becomes the last", "q01o9c1");
        ratio("odds(0, 4)", x.odds(0, 4), 2, 9);
        ratio("a child wants none", x.odds(1, 4), 0, 1);
        fresh("33, fewer than wanted", "q02g9");
        ratio("odds(0, 4)", x.odds(0, 4), 0, 1);
        fresh("33, nobody");
        Check.due("odds(0, 0)", x.odds(0, 0), BAD);
    }

    private void promise34() {
        fresh("34");
        Check.due("nobody", x.mid(0), STATE);
        Check.due("mid(13)", x.mid(13), BAD);
        fresh("34", "q04g9p9");
        ratio("mid(0)", x.mid(0), 0, 1);
        ratio("mid(12)", x.mid(12), 4, 1);
        ratio("mid(6)", x.mid(6), 2, 1);
        ratio("mid(5)", x.mid(5), 5, 3);
        Check.due("mid(-1)", x.mid(-1), BAD);
        fresh("34, an orphan becomes the last", "q01o9c1");
        // there and last: 1/2 by 1/2
        ratio("mid(6)", x.mid(6), 3, 4);
        Check.due("asked()", x.asked(), 0);
    }

    private void promise35() {
        fresh("35");
        Check.due("nobody", x.lots(1, 1), STATE);
        Check.due("nobody, no seed", x.lots(1, 0), BAD);
        fresh("35", "q05p1p2p3");
        Check.due("lots(0, 1)", x.lots(0, 1), BAD);
        Check.due("lots(21, 1)", x.lots(21, 1), BAD);
        Check.due("lots(1, 0)", x.lots(1, 0), BAD);
        Check.due("lots(1, most)", x.lots(1, MOST), BAD);
        Check.due("lots(1, -1)", x.lots(1, -1), BAD);
        // 48271: by 8 is 6033, modulo 8 is 1: a ticket; modulo 3 is 1; by 64 is 754, modulo 3 is 1: it stands there
        Check.due("lots(1, 1)", x.lots(1, 1), 3);
        Check.due("a deed by which nothing becomes other", x.count(3), 1);
        Check.due("no ticket", x.count(2), 0);
        stand("012");
        // 182605794 comes behind 48271: by 8 modulo 8 is 4; modulo 3 is 0; by 64 is 2853215, modulo 3 is 2
        Check.due("lots(2, 1): who is of patience 1 is the last of three", x.lots(2, 1), 2);
        stand("120");
        Check.due("count(3)", x.count(3), 3);
        Check.due("sold(0, 1)", x.sold(0, 1), 2);
        Check.due("undo(2)", x.undo(2), 1);
        stand("012");
        Check.due("20 more", x.lots(18, MOST - 1) >= 0 ? 1 : 0, 1);
        Check.due("20 more", x.lots(20, 5) >= 0 ? 1 : 0, 1);
        Check.due("count(3)", x.count(3), 40);
        Check.due("41st deed", x.lots(1, 5), FULL);
        Check.due("41st deed, no number", x.lots(0, 5), BAD);
        fresh("35", "q05p1p2p3");
        x.lots(20, 9);
        x.lots(20, 10);
        x.undo(39);
        Check.due("two more than there may be", x.lots(2, 5), FULL);
        lotsOfEachKind();
    }

    /** The first seeds whose first number is a ticket given back, or loaves: told by the document's own words. */
    private void lotsOfEachKind() {
        boolean gaveBack = false;
        boolean changed = false;
        for (int seed = 1; seed < 200 && !(gaveBack && changed); seed++) {
            long it = seed * 48271L % 2147483647L;
            long what = it / 8 % 8;
            fresh("35, seed " + seed, "q05p9p9p9");
            x.ticket(0, 1);
            x.ticket(1, 1);
            x.ticket(2, 0);
            if (what == 6 && it / 64 % 3 == 0) {
                Check.due("lots(1, seed)", x.lots(1, seed), 3);
                Check.due("ticket 0 is out, ticket 1 falls", x.count(2), 1);
                Check.due("sold(0, 0)", x.sold(0, 0), 2);
                gaveBack = true;
            } else if (what == 7 && it / 64 % 21 > 5) {
                Check.due("lots(1, seed)", x.lots(1, seed), 3);
                Check.due("count(1)", x.count(1), it / 64 % 21);
                changed = true;
            }
        }
        Check.that("both kinds", gaveBack && changed);
    }

    // ---- 9 what is told

    private void promise36() {
        fresh("36");
        Check.due("asked()", x.asked(), 0);
        write(0, SIX);
        x.line(0);
        row(0, 5, 9);
        told("lay()", x.lay(0, 0, 6), 5);
        told("at()", x.at(0, 1), 9);
        told("mean()", x.mean(0), 7);
        told("one()", x.one(5, 1), 9);
        Check.due("best(3)", x.best(3), 0);
        Check.due("best()", x.asked(), 2);
        x.row(1, 0);
        Check.due("next(1)", x.next(1), 0);
        Check.due("next()", x.asked(), 420);
        told("sets()", x.sets(4), 11);
        Check.due("sure(1)", x.sure(1), 0);
        Check.due("sure()", x.asked(), 24);
        told("duel()", x.duel(0, 4, 2), -2);
        x.one(9, 9);
        x.at(0, 9);
        x.gets(3, 0);
        x.odds(0, 1);
        x.lines(1);
        x.digest();
        x.mark(2, 2);
        Check.due("asked() stays", x.asked(), -2);
    }

    private void promise37and38() {
        fresh("37, 38");
        Check.due("upper()", x.upper(), 0);
        Check.due("lower()", x.lower(), 1);
        write(0, "q04g9p9");
        x.line(0);
        ratio("odds(1, 3)", x.odds(1, 3), 3, 4);
        x.odds(1, 13);
        x.mid(-1);
        x.sets(21);
        x.lines(0);
        x.sure(0);
        Check.due("upper() stays", x.upper(), 3);
        Check.due("lower() stays", x.lower(), 4);
        ratio("mid(4)", x.mid(4), 4, 3);
        ratio("sets(4)", x.sets(4), 1, 1);
        ratio("in lowest terms", x.odds(0, 9), 1, 4);
        x.row(0, 0);
        ratio("lines(0)", x.lines(0), 2, 1);
        ratio("0 by 1", x.odds(0, 12), 0, 1);
    }

    private void promise39() {
        fresh("39");
        Check.due("count(12)", x.count(12), BAD);
        Check.due("count(-1)", x.count(-1), BAD);
        write(2, SIX);
        x.line(2);
        x.row(4, 0);
        x.row(5, 3);
        x.text(0, 0);
        x.keep(0);
        x.keep(1);
        x.keep(2);
        int[] due = {6, 6, 0, 0, 8, 6, 51, 2, 2, 2, 2, 3};
        for (int what = 0; what < 12; what++) {
            Check.due("count(" + what + ")", x.count(what), due[what]);
        }
        x.ticket(3, 0);
        x.loaves(7);
        x.loaves(8);
        int[] then = {6, 8, 1, 3, 0, 8, 59, 2, 2, 2, 2, 3};
        for (int what = 0; what < 12; what++) {
            Check.due("count(" + what + ") then", x.count(what), then[what]);
        }
    }

    private void promise40and41() {
        fresh("40, 41");
        Check.due("finding()", x.finding(), 0);
        for (int f = 1; f <= 5; f++) {
            Check.due("findings(" + f + ")", x.findings(f), 0);
        }
        Check.due("findings(0)", x.findings(0), BAD);
        Check.due("findings(6)", x.findings(6), BAD);
        Check.due("findings(-1)", x.findings(-1), BAD);
        x.tear(0);
        x.tear(1);
        Check.due("finding()", x.finding(), NOTHING);
        x.row(0, 0);
        x.at(0, 0);
        Check.due("finding()", x.finding(), BEYOND);
        x.mean(0);
        Check.due("finding()", x.finding(), NOUGHT);
        x.row(0, -1);
        Check.due("finding()", x.finding(), SIZE);
        write(0, SIX);
        x.line(0);
        x.mark(0, 1);
        x.row(9, 9);
        Check.due("finding() stays", x.finding(), UNLIKE);
        int[] due = {2, 1, 1, 1, 1};
        for (int f = 1; f <= 5; f++) {
            Check.due("findings(" + f + ")", x.findings(f), due[f - 1]);
        }
    }

    private void promise42() {
        fresh("42");
        long h = 17;
        for (int v = 0; v < 12; v++) {
            h = 31 * h;
        }
        for (int v = 0; v < 3 + 6 + 4; v++) {
            h = 31 * h - 1;
        }
        Check.due("digest() at first", x.digest(), h);
        write(1, "q03p1 ");
        x.line(1);
        x.loaves(9);
        x.keep(2);
        row(3, -7, 8);
        x.put(1, 5, 200);
        x.one(0, 1);
        int[] told = {
            1, 9, 0, 1, 0, 1, 1, 0, 0, 1, 1, 1, // count()
            0, 1, 0, 1, 1, 0, 0, // one()
            -1, -1, 1, // kept
            -1, -1, -1, 2, -7, 8, -1, -1, // ROWS
            -1, 6, 113, 48, 51, 112, 49, -56, -1, -1}; // TEXTS
        Check.due("digest()", x.digest(), digest(told));
        Check.due("asked() stays", x.asked(), 1);
        Check.due("digest() again", x.digest(), digest(told));
        fresh("42, tickets", "q02s1p9");
        x.ticket(1, 0);
        x.ticket(0, 0);
        x.ticket(1, 0);
        int[] then = {
            2, 2, 3, 3, 0, 2, 3, 1, 0, 0, 1, 0,
            1, 1, 1, 1, 1, 0, 2, 0, 9, 0, 1, 1, 1, 1,
            1, 0, 0, 0, 1, 0,
            -1, -1, -1, -1, -1, -1, -1, -1, -1,
            7, 113, 48, 50, 115, 49, 112, 57, -1, -1, -1};
        Check.due("digest() with tickets", x.digest(), digest(then));
    }

    private static long digest(int[] told) {
        long h = 17;
        for (int v : told) {
            h = 31 * h + v;
        }
        return h;
    }
}
